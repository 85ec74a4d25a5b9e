theorem dX12_init_0 : decode cX12_init 0 = .ok (.aload_n 0, 1) := by decide +kernel
theorem dX12_init_1 : decode cX12_init 1 = .ok (.invokespecial 1, 3) := by decide +kernel
theorem dX12_init_4 : decode cX12_init 4 = .ok (.aload_n 0, 1) := by decide +kernel
theorem dX12_init_5 : decode cX12_init 5 = .ok (.sipush 440, 3) := by decide +kernel
theorem dX12_init_8 : decode cX12_init 8 = .ok (.newarray .int, 2) := by decide +kernel
theorem dX12_init_10 : decode cX12_init 10 = .ok (.putfield 7, 3) := by decide +kernel
theorem dX12_init_13 : decode cX12_init 13 = .ok (.aload_n 0, 1) := by decide +kernel
theorem dX12_init_14 : decode cX12_init 14 = .ok (.bipush 20, 2) := by decide +kernel
theorem dX12_init_16 : decode cX12_init 16 = .ok (.newarray .long, 2) := by decide +kernel
theorem dX12_init_18 : decode cX12_init 18 = .ok (.putfield 13, 3) := by decide +kernel
theorem dX12_init_21 : decode cX12_init 21 = .ok (.aload_n 0, 1) := by decide +kernel
theorem dX12_init_22 : decode cX12_init 22 = .ok (.bipush 7, 2) := by decide +kernel
theorem dX12_init_24 : decode cX12_init 24 = .ok (.newarray .int, 2) := by decide +kernel
theorem dX12_init_26 : decode cX12_init 26 = .ok (.putfield 17, 3) := by decide +kernel
theorem dX12_init_29 : decode cX12_init 29 = .ok (.aload_n 0, 1) := by decide +kernel
theorem dX12_init_30 : decode cX12_init 30 = .ok (.bipush 84, 2) := by decide +kernel
theorem dX12_init_32 : decode cX12_init 32 = .ok (.newarray .int, 2) := by decide +kernel
theorem dX12_init_34 : decode cX12_init 34 = .ok (.putfield 20, 3) := by decide +kernel
theorem dX12_init_37 : decode cX12_init 37 = .ok (.aload_n 0, 1) := by decide +kernel
theorem dX12_init_38 : decode cX12_init 38 = .ok (.bipush 84, 2) := by decide +kernel
theorem dX12_init_40 : decode cX12_init 40 = .ok (.newarray .int, 2) := by decide +kernel
theorem dX12_init_42 : decode cX12_init 42 = .ok (.putfield 23, 3) := by decide +kernel
theorem dX12_init_45 : decode cX12_init 45 = .ok (.aload_n 0, 1) := by decide +kernel
theorem dX12_init_46 : decode cX12_init 46 = .ok (.bipush 84, 2) := by decide +kernel
theorem dX12_init_48 : decode cX12_init 48 = .ok (.newarray .int, 2) := by decide +kernel
theorem dX12_init_50 : decode cX12_init 50 = .ok (.putfield 26, 3) := by decide +kernel
theorem dX12_init_53 : decode cX12_init 53 = .ok (.aload_n 0, 1) := by decide +kernel
theorem dX12_init_54 : decode cX12_init 54 = .ok (.bipush 84, 2) := by decide +kernel
theorem dX12_init_56 : decode cX12_init 56 = .ok (.newarray .int, 2) := by decide +kernel
theorem dX12_init_58 : decode cX12_init 58 = .ok (.putfield 29, 3) := by decide +kernel
theorem dX12_init_61 : decode cX12_init 61 = .ok (.aload_n 0, 1) := by decide +kernel
theorem dX12_init_62 : decode cX12_init 62 = .ok (.bipush 84, 2) := by decide +kernel
theorem dX12_init_64 : decode cX12_init 64 = .ok (.newarray .int, 2) := by decide +kernel
theorem dX12_init_66 : decode cX12_init 66 = .ok (.putfield 32, 3) := by decide +kernel
theorem dX12_init_69 : decode cX12_init 69 = .ok (.aload_n 0, 1) := by decide +kernel
theorem dX12_init_70 : decode cX12_init 70 = .ok (.bipush 84, 2) := by decide +kernel
theorem dX12_init_72 : decode cX12_init 72 = .ok (.newarray .int, 2) := by decide +kernel
theorem dX12_init_74 : decode cX12_init 74 = .ok (.putfield 35, 3) := by decide +kernel
theorem dX12_init_77 : decode cX12_init 77 = .ok (.aload_n 0, 1) := by decide +kernel
theorem dX12_init_78 : decode cX12_init 78 = .ok (.bipush 63, 2) := by decide +kernel
theorem dX12_init_80 : decode cX12_init 80 = .ok (.putfield 38, 3) := by decide +kernel
theorem dX12_init_83 : decode cX12_init 83 = .ok (.aload_n 0, 1) := by decide +kernel
theorem dX12_init_84 : decode cX12_init 84 = .ok (.bipush 8, 2) := by decide +kernel
theorem dX12_init_86 : decode cX12_init 86 = .ok (.newarray .int, 2) := by decide +kernel
theorem dX12_init_88 : decode cX12_init 88 = .ok (.putfield 42, 3) := by decide +kernel
theorem dX12_init_91 : decode cX12_init 91 = .ok (.aload_n 0, 1) := by decide +kernel
theorem dX12_init_92 : decode cX12_init 92 = .ok (.sipush 400, 3) := by decide +kernel
theorem dX12_init_95 : decode cX12_init 95 = .ok (.newarray .int, 2) := by decide +kernel
theorem dX12_init_97 : decode cX12_init 97 = .ok (.putfield 45, 3) := by decide +kernel
theorem dX12_init_100 : decode cX12_init 100 = .ok (.aload_n 0, 1) := by decide +kernel
theorem dX12_init_101 : decode cX12_init 101 = .ok (.sipush 400, 3) := by decide +kernel
theorem dX12_init_104 : decode cX12_init 104 = .ok (.newarray .int, 2) := by decide +kernel
theorem dX12_init_106 : decode cX12_init 106 = .ok (.putfield 48, 3) := by decide +kernel
theorem dX12_init_109 : decode cX12_init 109 = .ok (.aload_n 0, 1) := by decide +kernel
theorem dX12_init_110 : decode cX12_init 110 = .ok (.sipush 400, 3) := by decide +kernel
theorem dX12_init_113 : decode cX12_init 113 = .ok (.newarray .int, 2) := by decide +kernel
theorem dX12_init_115 : decode cX12_init 115 = .ok (.putfield 51, 3) := by decide +kernel
theorem dX12_init_118 : decode cX12_init 118 = .ok (.aload_n 0, 1) := by decide +kernel
theorem dX12_init_119 : decode cX12_init 119 = .ok (.bipush 84, 2) := by decide +kernel
theorem dX12_init_121 : decode cX12_init 121 = .ok (.newarray .boolean, 2) := by decide +kernel
theorem dX12_init_123 : decode cX12_init 123 = .ok (.putfield 54, 3) := by decide +kernel
theorem dX12_init_126 : decode cX12_init 126 = .ok (.aload_n 0, 1) := by decide +kernel
theorem dX12_init_127 : decode cX12_init 127 = .ok (.bipush 41, 2) := by decide +kernel
theorem dX12_init_129 : decode cX12_init 129 = .ok (.newarray .int, 2) := by decide +kernel
theorem dX12_init_131 : decode cX12_init 131 = .ok (.putfield 58, 3) := by decide +kernel
theorem dX12_init_134 : decode cX12_init 134 = .ok (.aload_n 0, 1) := by decide +kernel
theorem dX12_init_135 : decode cX12_init 135 = .ok (.bipush 72, 2) := by decide +kernel
theorem dX12_init_137 : decode cX12_init 137 = .ok (.newarray .int, 2) := by decide +kernel
theorem dX12_init_139 : decode cX12_init 139 = .ok (.putfield 61, 3) := by decide +kernel
theorem dX12_init_142 : decode cX12_init 142 = .ok (.aload_n 0, 1) := by decide +kernel
theorem dX12_init_143 : decode cX12_init 143 = .ok (.bipush 20, 2) := by decide +kernel
theorem dX12_init_145 : decode cX12_init 145 = .ok (.newarray .int, 2) := by decide +kernel
theorem dX12_init_147 : decode cX12_init 147 = .ok (.putfield 64, 3) := by decide +kernel
theorem dX12_init_150 : decode cX12_init 150 = .ok (.aload_n 0, 1) := by decide +kernel
theorem dX12_init_151 : decode cX12_init 151 = .ok (.bipush 20, 2) := by decide +kernel
theorem dX12_init_153 : decode cX12_init 153 = .ok (.newarray .int, 2) := by decide +kernel
theorem dX12_init_155 : decode cX12_init 155 = .ok (.putfield 67, 3) := by decide +kernel
theorem dX12_init_158 : decode cX12_init 158 = .ok (.return_, 1) := by decide +kernel
theorem dX12_thrown_0 : decode cX12_thrown 0 = .ok (.aload_n 0, 1) := by decide +kernel
theorem dX12_thrown_1 : decode cX12_thrown 1 = .ok (.getfield 70, 3) := by decide +kernel
theorem dX12_thrown_4 : decode cX12_thrown 4 = .ok (.ireturn, 1) := by decide +kernel
theorem dX12_refuse_0 : decode cX12_refuse 0 = .ok (.aload_n 0, 1) := by decide +kernel
theorem dX12_refuse_1 : decode cX12_refuse 1 = .ok (.iload_n 1, 1) := by decide +kernel
theorem dX12_refuse_2 : decode cX12_refuse 2 = .ok (.putfield 70, 3) := by decide +kernel
theorem dX12_refuse_5 : decode cX12_refuse 5 = .ok (.iconst 0, 1) := by decide +kernel
theorem dX12_refuse_6 : decode cX12_refuse 6 = .ok (.ireturn, 1) := by decide +kernel
theorem dX12_come_0 : decode cX12_come 0 = .ok (.bipush 24, 2) := by decide +kernel
theorem dX12_come_2 : decode cX12_come 2 = .ok (.istore_n 2, 1) := by decide +kernel
theorem dX12_come_3 : decode cX12_come 3 = .ok (.iload_n 2, 1) := by decide +kernel
theorem dX12_come_4 : decode cX12_come 4 = .ok (.ifCond .lt 35, 3) := by decide +kernel
theorem dX12_come_7 : decode cX12_come 7 = .ok (.aload_n 0, 1) := by decide +kernel
theorem dX12_come_8 : decode cX12_come 8 = .ok (.getfield 7, 3) := by decide +kernel
theorem dX12_come_11 : decode cX12_come 11 = .ok (.aload_n 0, 1) := by decide +kernel
theorem dX12_come_12 : decode cX12_come 12 = .ok (.getfield 73, 3) := by decide +kernel
theorem dX12_come_15 : decode cX12_come 15 = .ok (.iload_n 1, 1) := by decide +kernel
theorem dX12_come_16 : decode cX12_come 16 = .ok (.iload_n 2, 1) := by decide +kernel
theorem dX12_come_17 : decode cX12_come 17 = .ok (.iushr, 1) := by decide +kernel
theorem dX12_come_18 : decode cX12_come 18 = .ok (.sipush 255, 3) := by decide +kernel
theorem dX12_come_21 : decode cX12_come 21 = .ok (.iand, 1) := by decide +kernel
theorem dX12_come_22 : decode cX12_come 22 = .ok (.iastore, 1) := by decide +kernel
theorem dX12_come_23 : decode cX12_come 23 = .ok (.aload_n 0, 1) := by decide +kernel
theorem dX12_come_24 : decode cX12_come 24 = .ok (.dup, 1) := by decide +kernel
theorem dX12_come_25 : decode cX12_come 25 = .ok (.getfield 73, 3) := by decide +kernel
theorem dX12_come_28 : decode cX12_come 28 = .ok (.iconst 1, 1) := by decide +kernel
theorem dX12_come_29 : decode cX12_come 29 = .ok (.iadd, 1) := by decide +kernel
theorem dX12_come_30 : decode cX12_come 30 = .ok (.putfield 73, 3) := by decide +kernel
theorem dX12_come_33 : decode cX12_come 33 = .ok (.iinc 2 (-8), 3) := by decide +kernel
theorem dX12_come_36 : decode cX12_come 36 = .ok (.goto (-33), 3) := by decide +kernel
theorem dX12_come_39 : decode cX12_come 39 = .ok (.return_, 1) := by decide +kernel
set_option maxRecDepth 20000 in
theorem ggX12_feed_X12_come : GoodIn wsX12_feed wsX12_come := goodIn_r _ [7, 8, 2, 9, 10, 11, 12, 13, 14, 15, 16, 17, 18, 19, 20, 21, 22, 23, 24, 25, 26, 27, 28, 29, 30, 31, 32, 33, 34, 35, 36, 37, 38, 39, 40, 41] rfl (by decide +kernel)
set_option maxRecDepth 20000 in
theorem gX12_feed_X12_come : GoodIn wsX12_feed (wsV RX12 76 RX12 yX12_come wsX12_come) := goodIn_app (goodIn_of _ (by decide +kernel)) ggX12_feed_X12_come
theorem dX12_feed_0 : decode cX12_feed 0 = .ok (.aload_n 0, 1) := by decide +kernel
theorem dX12_feed_1 : decode cX12_feed 1 = .ok (.iconst 0, 1) := by decide +kernel
theorem dX12_feed_2 : decode cX12_feed 2 = .ok (.putfield 70, 3) := by decide +kernel
theorem dX12_feed_5 : decode cX12_feed 5 = .ok (.aload_n 0, 1) := by decide +kernel
theorem dX12_feed_6 : decode cX12_feed 6 = .ok (.getfield 73, 3) := by decide +kernel
theorem dX12_feed_9 : decode cX12_feed 9 = .ok (.bipush 20, 2) := by decide +kernel
theorem dX12_feed_11 : decode cX12_feed 11 = .ok (.iadd, 1) := by decide +kernel
theorem dX12_feed_12 : decode cX12_feed 12 = .ok (.sipush 440, 3) := by decide +kernel
theorem dX12_feed_15 : decode cX12_feed 15 = .ok (.if_icmp .le 5, 3) := by decide +kernel
theorem dX12_feed_18 : decode cX12_feed 18 = .ok (.iconst (-1), 1) := by decide +kernel
theorem dX12_feed_19 : decode cX12_feed 19 = .ok (.ireturn, 1) := by decide +kernel
theorem dX12_feed_20 : decode cX12_feed 20 = .ok (.aload_n 0, 1) := by decide +kernel
theorem dX12_feed_21 : decode cX12_feed 21 = .ok (.iload_n 1, 1) := by decide +kernel
theorem dX12_feed_22 : decode cX12_feed 22 = .ok (.invokevirtual 76, 3) := by decide +kernel
theorem dX12_feed_25 : decode cX12_feed 25 = .ok (.aload_n 0, 1) := by decide +kernel
theorem dX12_feed_26 : decode cX12_feed 26 = .ok (.iload_n 2, 1) := by decide +kernel
theorem dX12_feed_27 : decode cX12_feed 27 = .ok (.invokevirtual 76, 3) := by decide +kernel
theorem dX12_feed_30 : decode cX12_feed 30 = .ok (.aload_n 0, 1) := by decide +kernel
theorem dX12_feed_31 : decode cX12_feed 31 = .ok (.iload_n 3, 1) := by decide +kernel
theorem dX12_feed_32 : decode cX12_feed 32 = .ok (.invokevirtual 76, 3) := by decide +kernel
theorem dX12_feed_35 : decode cX12_feed 35 = .ok (.aload_n 0, 1) := by decide +kernel
theorem dX12_feed_36 : decode cX12_feed 36 = .ok (.iload 4, 2) := by decide +kernel
theorem dX12_feed_38 : decode cX12_feed 38 = .ok (.invokevirtual 76, 3) := by decide +kernel
theorem dX12_feed_41 : decode cX12_feed 41 = .ok (.aload_n 0, 1) := by decide +kernel
theorem dX12_feed_42 : decode cX12_feed 42 = .ok (.iload 5, 2) := by decide +kernel
theorem dX12_feed_44 : decode cX12_feed 44 = .ok (.invokevirtual 76, 3) := by decide +kernel
theorem dX12_feed_47 : decode cX12_feed 47 = .ok (.aload_n 0, 1) := by decide +kernel
theorem dX12_feed_48 : decode cX12_feed 48 = .ok (.getfield 73, 3) := by decide +kernel
theorem dX12_feed_51 : decode cX12_feed 51 = .ok (.ireturn, 1) := by decide +kernel
theorem dX12_end_0 : decode cX12_end 0 = .ok (.aload_n 0, 1) := by decide +kernel
theorem dX12_end_1 : decode cX12_end 1 = .ok (.iconst 0, 1) := by decide +kernel
theorem dX12_end_2 : decode cX12_end 2 = .ok (.putfield 70, 3) := by decide +kernel
theorem dX12_end_5 : decode cX12_end 5 = .ok (.iload_n 1, 1) := by decide +kernel
theorem dX12_end_6 : decode cX12_end 6 = .ok (.ifCond .lt 11, 3) := by decide +kernel
theorem dX12_end_9 : decode cX12_end 9 = .ok (.iload_n 1, 1) := by decide +kernel
theorem dX12_end_10 : decode cX12_end 10 = .ok (.aload_n 0, 1) := by decide +kernel
theorem dX12_end_11 : decode cX12_end 11 = .ok (.getfield 73, 3) := by decide +kernel
theorem dX12_end_14 : decode cX12_end 14 = .ok (.if_icmp .le 5, 3) := by decide +kernel
theorem dX12_end_17 : decode cX12_end 17 = .ok (.iconst 0, 1) := by decide +kernel
theorem dX12_end_18 : decode cX12_end 18 = .ok (.ireturn, 1) := by decide +kernel
theorem dX12_end_19 : decode cX12_end 19 = .ok (.aload_n 0, 1) := by decide +kernel
theorem dX12_end_20 : decode cX12_end 20 = .ok (.iload_n 1, 1) := by decide +kernel
theorem dX12_end_21 : decode cX12_end 21 = .ok (.putfield 73, 3) := by decide +kernel
theorem dX12_end_24 : decode cX12_end 24 = .ok (.iconst 1, 1) := by decide +kernel
theorem dX12_end_25 : decode cX12_end 25 = .ok (.ireturn, 1) := by decide +kernel
theorem dX12_byteAt_0 : decode cX12_byteAt 0 = .ok (.iload_n 1, 1) := by decide +kernel
theorem dX12_byteAt_1 : decode cX12_byteAt 1 = .ok (.iload_n 2, 1) := by decide +kernel
theorem dX12_byteAt_2 : decode cX12_byteAt 2 = .ok (.if_icmp .ge 12, 3) := by decide +kernel
theorem dX12_byteAt_5 : decode cX12_byteAt 5 = .ok (.aload_n 0, 1) := by decide +kernel
theorem dX12_byteAt_6 : decode cX12_byteAt 6 = .ok (.getfield 7, 3) := by decide +kernel
theorem dX12_byteAt_9 : decode cX12_byteAt 9 = .ok (.iload_n 1, 1) := by decide +kernel
theorem dX12_byteAt_10 : decode cX12_byteAt 10 = .ok (.iaload, 1) := by decide +kernel
theorem dX12_byteAt_11 : decode cX12_byteAt 11 = .ok (.goto 4, 3) := by decide +kernel
theorem dX12_byteAt_14 : decode cX12_byteAt 14 = .ok (.iconst 0, 1) := by decide +kernel
theorem dX12_byteAt_15 : decode cX12_byteAt 15 = .ok (.ireturn, 1) := by decide +kernel
theorem dX12_isDigit_0 : decode cX12_isDigit 0 = .ok (.iload_n 0, 1) := by decide +kernel
theorem dX12_isDigit_1 : decode cX12_isDigit 1 = .ok (.bipush 48, 2) := by decide +kernel
theorem dX12_isDigit_3 : decode cX12_isDigit 3 = .ok (.if_icmp .lt 13, 3) := by decide +kernel
theorem dX12_isDigit_6 : decode cX12_isDigit 6 = .ok (.iload_n 0, 1) := by decide +kernel
theorem dX12_isDigit_7 : decode cX12_isDigit 7 = .ok (.bipush 57, 2) := by decide +kernel
theorem dX12_isDigit_9 : decode cX12_isDigit 9 = .ok (.if_icmp .gt 7, 3) := by decide +kernel
theorem dX12_isDigit_12 : decode cX12_isDigit 12 = .ok (.iconst 1, 1) := by decide +kernel
theorem dX12_isDigit_13 : decode cX12_isDigit 13 = .ok (.goto 4, 3) := by decide +kernel
theorem dX12_isDigit_16 : decode cX12_isDigit 16 = .ok (.iconst 0, 1) := by decide +kernel
theorem dX12_isDigit_17 : decode cX12_isDigit 17 = .ok (.ireturn, 1) := by decide +kernel
theorem dX12_isLetter_0 : decode cX12_isLetter 0 = .ok (.iload_n 0, 1) := by decide +kernel
theorem dX12_isLetter_1 : decode cX12_isLetter 1 = .ok (.bipush 97, 2) := by decide +kernel
theorem dX12_isLetter_3 : decode cX12_isLetter 3 = .ok (.if_icmp .lt 13, 3) := by decide +kernel
theorem dX12_isLetter_6 : decode cX12_isLetter 6 = .ok (.iload_n 0, 1) := by decide +kernel
theorem dX12_isLetter_7 : decode cX12_isLetter 7 = .ok (.bipush 122, 2) := by decide +kernel
theorem dX12_isLetter_9 : decode cX12_isLetter 9 = .ok (.if_icmp .gt 7, 3) := by decide +kernel
theorem dX12_isLetter_12 : decode cX12_isLetter 12 = .ok (.iconst 1, 1) := by decide +kernel
theorem dX12_isLetter_13 : decode cX12_isLetter 13 = .ok (.goto 4, 3) := by decide +kernel
theorem dX12_isLetter_16 : decode cX12_isLetter 16 = .ok (.iconst 0, 1) := by decide +kernel
theorem dX12_isLetter_17 : decode cX12_isLetter 17 = .ok (.ireturn, 1) := by decide +kernel
theorem dX12_blanks_0 : decode cX12_blanks 0 = .ok (.aload_n 0, 1) := by decide +kernel
theorem dX12_blanks_1 : decode cX12_blanks 1 = .ok (.getfield 80, 3) := by decide +kernel
theorem dX12_blanks_4 : decode cX12_blanks 4 = .ok (.aload_n 0, 1) := by decide +kernel
theorem dX12_blanks_5 : decode cX12_blanks 5 = .ok (.getfield 83, 3) := by decide +kernel
theorem dX12_blanks_8 : decode cX12_blanks 8 = .ok (.if_icmp .ge 44, 3) := by decide +kernel
theorem dX12_blanks_11 : decode cX12_blanks 11 = .ok (.aload_n 0, 1) := by decide +kernel
theorem dX12_blanks_12 : decode cX12_blanks 12 = .ok (.getfield 7, 3) := by decide +kernel
theorem dX12_blanks_15 : decode cX12_blanks 15 = .ok (.aload_n 0, 1) := by decide +kernel
theorem dX12_blanks_16 : decode cX12_blanks 16 = .ok (.getfield 80, 3) := by decide +kernel
theorem dX12_blanks_19 : decode cX12_blanks 19 = .ok (.iaload, 1) := by decide +kernel
theorem dX12_blanks_20 : decode cX12_blanks 20 = .ok (.bipush 32, 2) := by decide +kernel
theorem dX12_blanks_22 : decode cX12_blanks 22 = .ok (.if_icmp .eq 17, 3) := by decide +kernel
theorem dX12_blanks_25 : decode cX12_blanks 25 = .ok (.aload_n 0, 1) := by decide +kernel
theorem dX12_blanks_26 : decode cX12_blanks 26 = .ok (.getfield 7, 3) := by decide +kernel
theorem dX12_blanks_29 : decode cX12_blanks 29 = .ok (.aload_n 0, 1) := by decide +kernel
theorem dX12_blanks_30 : decode cX12_blanks 30 = .ok (.getfield 80, 3) := by decide +kernel
theorem dX12_blanks_33 : decode cX12_blanks 33 = .ok (.iaload, 1) := by decide +kernel
theorem dX12_blanks_34 : decode cX12_blanks 34 = .ok (.bipush 10, 2) := by decide +kernel
theorem dX12_blanks_36 : decode cX12_blanks 36 = .ok (.if_icmp .ne 16, 3) := by decide +kernel
theorem dX12_blanks_39 : decode cX12_blanks 39 = .ok (.aload_n 0, 1) := by decide +kernel
theorem dX12_blanks_40 : decode cX12_blanks 40 = .ok (.dup, 1) := by decide +kernel
theorem dX12_blanks_41 : decode cX12_blanks 41 = .ok (.getfield 80, 3) := by decide +kernel
theorem dX12_blanks_44 : decode cX12_blanks 44 = .ok (.iconst 1, 1) := by decide +kernel
theorem dX12_blanks_45 : decode cX12_blanks 45 = .ok (.iadd, 1) := by decide +kernel
theorem dX12_blanks_46 : decode cX12_blanks 46 = .ok (.putfield 80, 3) := by decide +kernel
theorem dX12_blanks_49 : decode cX12_blanks 49 = .ok (.goto (-49), 3) := by decide +kernel
theorem dX12_blanks_52 : decode cX12_blanks 52 = .ok (.return_, 1) := by decide +kernel
set_option maxRecDepth 20000 in
theorem ggX12_go_X12_blanks : GoodIn wsX12_go wsX12_blanks := goodIn_r _ [10, 1, 3, 5, 29, 30, 31, 32, 33, 34, 35, 36, 37, 38, 39, 40, 41, 42, 43, 44, 45, 46, 47, 48, 49, 50, 51, 52, 53, 54, 55, 56, 57, 58, 59, 60, 61] rfl (by decide +kernel)
set_option maxRecDepth 20000 in
theorem gX12_go_X12_blanks : GoodIn wsX12_go (wsV RX12 86 RX12 yX12_blanks wsX12_blanks) := goodIn_app (goodIn_of _ (by decide +kernel)) ggX12_go_X12_blanks
set_option maxRecDepth 20000 in
theorem ggX12_go_X12_isLetter : GoodIn wsX12_go wsX12_isLetter := goodIn_r _ [13] rfl (by decide +kernel)
set_option maxRecDepth 20000 in
theorem gX12_go_X12_isLetter : GoodIn wsX12_go (va_wsS RX12 95 yX12_isLetter wsX12_isLetter) := goodIn_app (goodIn_of _ (by decide +kernel)) ggX12_go_X12_isLetter
set_option maxRecDepth 20000 in
theorem ggX12_go_X12_isDigit : GoodIn wsX12_go wsX12_isDigit := goodIn_r _ [16] rfl (by decide +kernel)
set_option maxRecDepth 20000 in
theorem gX12_go_X12_isDigit : GoodIn wsX12_go (va_wsS RX12 99 yX12_isDigit wsX12_isDigit) := goodIn_app (goodIn_of _ (by decide +kernel)) ggX12_go_X12_isDigit
set_option maxRecDepth 20000 in
theorem ggX12_go_X12_readWord : GoodIn wsX12_go wsX12_readWord := goodIn_r _ [20, 5, 1, 21, 22, 3, 2, 23, 24, 4, 11, 12, 9, 13, 25, 26, 27, 28, 14, 15, 16, 29, 30, 31, 32, 33, 34, 35, 36, 37, 38, 39, 40, 41, 42, 43, 44, 45, 46, 47, 48, 49, 50, 51, 52, 53, 54, 55, 56, 57, 58, 59, 60, 61] rfl (by decide +kernel)
set_option maxRecDepth 20000 in
theorem gX12_go_X12_readWord : GoodIn wsX12_go (wsV RX12 102 RX12 yX12_readWord wsX12_readWord) := goodIn_app (goodIn_of _ (by decide +kernel)) ggX12_go_X12_readWord
theorem dX12_go_0 : decode cX12_go 0 = .ok (.aload_n 0, 1) := by decide +kernel
theorem dX12_go_1 : decode cX12_go 1 = .ok (.invokevirtual 86, 3) := by decide +kernel
theorem dX12_go_4 : decode cX12_go 4 = .ok (.aload_n 0, 1) := by decide +kernel
theorem dX12_go_5 : decode cX12_go 5 = .ok (.aload_n 0, 1) := by decide +kernel
theorem dX12_go_6 : decode cX12_go 6 = .ok (.getfield 80, 3) := by decide +kernel
theorem dX12_go_9 : decode cX12_go 9 = .ok (.putfield 89, 3) := by decide +kernel
theorem dX12_go_12 : decode cX12_go 12 = .ok (.aload_n 0, 1) := by decide +kernel
theorem dX12_go_13 : decode cX12_go 13 = .ok (.getfield 83, 3) := by decide +kernel
theorem dX12_go_16 : decode cX12_go 16 = .ok (.sipush 400, 3) := by decide +kernel
theorem dX12_go_19 : decode cX12_go 19 = .ok (.if_icmp .le 26, 3) := by decide +kernel
theorem dX12_go_22 : decode cX12_go 22 = .ok (.aload_n 0, 1) := by decide +kernel
theorem dX12_go_23 : decode cX12_go 23 = .ok (.getfield 89, 3) := by decide +kernel
theorem dX12_go_26 : decode cX12_go 26 = .ok (.sipush 400, 3) := by decide +kernel
theorem dX12_go_29 : decode cX12_go 29 = .ok (.if_icmp .lt 16, 3) := by decide +kernel
theorem dX12_go_32 : decode cX12_go 32 = .ok (.aload_n 0, 1) := by decide +kernel
theorem dX12_go_33 : decode cX12_go 33 = .ok (.sipush 400, 3) := by decide +kernel
theorem dX12_go_36 : decode cX12_go 36 = .ok (.putfield 89, 3) := by decide +kernel
theorem dX12_go_39 : decode cX12_go 39 = .ok (.aload_n 0, 1) := by decide +kernel
theorem dX12_go_40 : decode cX12_go 40 = .ok (.iconst 1, 1) := by decide +kernel
theorem dX12_go_41 : decode cX12_go 41 = .ok (.putfield 92, 3) := by decide +kernel
theorem dX12_go_44 : decode cX12_go 44 = .ok (.return_, 1) := by decide +kernel
theorem dX12_go_45 : decode cX12_go 45 = .ok (.aload_n 0, 1) := by decide +kernel
theorem dX12_go_46 : decode cX12_go 46 = .ok (.getfield 80, 3) := by decide +kernel
theorem dX12_go_49 : decode cX12_go 49 = .ok (.aload_n 0, 1) := by decide +kernel
theorem dX12_go_50 : decode cX12_go 50 = .ok (.getfield 83, 3) := by decide +kernel
theorem dX12_go_53 : decode cX12_go 53 = .ok (.if_icmp .lt 9, 3) := by decide +kernel
theorem dX12_go_56 : decode cX12_go 56 = .ok (.aload_n 0, 1) := by decide +kernel
theorem dX12_go_57 : decode cX12_go 57 = .ok (.iconst 0, 1) := by decide +kernel
theorem dX12_go_58 : decode cX12_go 58 = .ok (.putfield 92, 3) := by decide +kernel
theorem dX12_go_61 : decode cX12_go 61 = .ok (.return_, 1) := by decide +kernel
theorem dX12_go_62 : decode cX12_go 62 = .ok (.aload_n 0, 1) := by decide +kernel
theorem dX12_go_63 : decode cX12_go 63 = .ok (.getfield 7, 3) := by decide +kernel
theorem dX12_go_66 : decode cX12_go 66 = .ok (.aload_n 0, 1) := by decide +kernel
theorem dX12_go_67 : decode cX12_go 67 = .ok (.getfield 80, 3) := by decide +kernel
theorem dX12_go_70 : decode cX12_go 70 = .ok (.iaload, 1) := by decide +kernel
theorem dX12_go_71 : decode cX12_go 71 = .ok (.istore_n 1, 1) := by decide +kernel
theorem dX12_go_72 : decode cX12_go 72 = .ok (.iload_n 1, 1) := by decide +kernel
theorem dX12_go_73 : decode cX12_go 73 = .ok (.invokestatic 95, 3) := by decide +kernel
theorem dX12_go_76 : decode cX12_go 76 = .ok (.ifCond .ne 10, 3) := by decide +kernel
theorem dX12_go_79 : decode cX12_go 79 = .ok (.iload_n 1, 1) := by decide +kernel
theorem dX12_go_80 : decode cX12_go 80 = .ok (.invokestatic 99, 3) := by decide +kernel
theorem dX12_go_83 : decode cX12_go 83 = .ok (.ifCond .eq 8, 3) := by decide +kernel
theorem dX12_go_86 : decode cX12_go 86 = .ok (.aload_n 0, 1) := by decide +kernel
theorem dX12_go_87 : decode cX12_go 87 = .ok (.invokevirtual 102, 3) := by decide +kernel
theorem dX12_go_90 : decode cX12_go 90 = .ok (.return_, 1) := by decide +kernel
theorem dX12_go_91 : decode cX12_go 91 = .ok (.aload_n 0, 1) := by decide +kernel
theorem dX12_go_92 : decode cX12_go 92 = .ok (.iload_n 1, 1) := by decide +kernel
theorem dX12_go_93 : decode cX12_go 93 = .ok (.bipush 59, 2) := by decide +kernel
theorem dX12_go_95 : decode cX12_go 95 = .ok (.if_icmp .ne 7, 3) := by decide +kernel
theorem dX12_go_98 : decode cX12_go 98 = .ok (.iconst 4, 1) := by decide +kernel
theorem dX12_go_99 : decode cX12_go 99 = .ok (.goto 4, 3) := by decide +kernel
theorem dX12_go_102 : decode cX12_go 102 = .ok (.iconst 1, 1) := by decide +kernel
theorem dX12_go_103 : decode cX12_go 103 = .ok (.putfield 92, 3) := by decide +kernel
theorem dX12_go_106 : decode cX12_go 106 = .ok (.aload_n 0, 1) := by decide +kernel
theorem dX12_go_107 : decode cX12_go 107 = .ok (.dup, 1) := by decide +kernel
theorem dX12_go_108 : decode cX12_go 108 = .ok (.getfield 80, 3) := by decide +kernel
theorem dX12_go_111 : decode cX12_go 111 = .ok (.iconst 1, 1) := by decide +kernel
theorem dX12_go_112 : decode cX12_go 112 = .ok (.iadd, 1) := by decide +kernel
theorem dX12_go_113 : decode cX12_go 113 = .ok (.putfield 80, 3) := by decide +kernel
theorem dX12_go_116 : decode cX12_go 116 = .ok (.return_, 1) := by decide +kernel
set_option maxRecDepth 20000 in
theorem ggX12_readWord_X12_isLetter : GoodIn wsX12_readWord wsX12_isLetter := goodIn_r _ [13] rfl (by decide +kernel)
set_option maxRecDepth 20000 in
theorem gX12_readWord_X12_isLetter : GoodIn wsX12_readWord (va_wsS RX12 95 yX12_isLetter wsX12_isLetter) := goodIn_app (goodIn_of _ (by decide +kernel)) ggX12_readWord_X12_isLetter
set_option maxRecDepth 20000 in
theorem ggX12_readWord_X12_byteAt : GoodIn wsX12_readWord wsX12_byteAt := goodIn_r _ [17, 1, 21, 22, 23, 24, 25, 26, 27, 28, 29, 30, 31, 32, 33, 34, 35, 36, 37, 38, 39, 40, 41, 42, 43, 44, 45, 46, 47, 48, 49, 50, 51, 52, 53] rfl (by decide +kernel)
set_option maxRecDepth 20000 in
theorem gX12_readWord_X12_byteAt : GoodIn wsX12_readWord (wsV RX12 112 RX12 yX12_byteAt wsX12_byteAt) := goodIn_app (goodIn_of _ (by decide +kernel)) ggX12_readWord_X12_byteAt
set_option maxRecDepth 20000 in
theorem ggX12_readWord_X12_isDigit : GoodIn wsX12_readWord wsX12_isDigit := goodIn_r _ [20] rfl (by decide +kernel)
set_option maxRecDepth 20000 in
theorem gX12_readWord_X12_isDigit : GoodIn wsX12_readWord (va_wsS RX12 99 yX12_isDigit wsX12_isDigit) := goodIn_app (goodIn_of _ (by decide +kernel)) ggX12_readWord_X12_isDigit
theorem dX12_readWord_0 : decode cX12_readWord 0 = .ok (.aload_n 0, 1) := by decide +kernel
theorem dX12_readWord_1 : decode cX12_readWord 1 = .ok (.getfield 7, 3) := by decide +kernel
theorem dX12_readWord_4 : decode cX12_readWord 4 = .ok (.aload_n 0, 1) := by decide +kernel
theorem dX12_readWord_5 : decode cX12_readWord 5 = .ok (.getfield 80, 3) := by decide +kernel
theorem dX12_readWord_8 : decode cX12_readWord 8 = .ok (.iaload, 1) := by decide +kernel
theorem dX12_readWord_9 : decode cX12_readWord 9 = .ok (.invokestatic 95, 3) := by decide +kernel
theorem dX12_readWord_12 : decode cX12_readWord 12 = .ok (.istore_n 1, 1) := by decide +kernel
theorem dX12_readWord_13 : decode cX12_readWord 13 = .ok (.iconst 1, 1) := by decide +kernel
theorem dX12_readWord_14 : decode cX12_readWord 14 = .ok (.istore_n 2, 1) := by decide +kernel
theorem dX12_readWord_15 : decode cX12_readWord 15 = .ok (.aload_n 0, 1) := by decide +kernel
theorem dX12_readWord_16 : decode cX12_readWord 16 = .ok (.lconst 0, 1) := by decide +kernel
theorem dX12_readWord_17 : decode cX12_readWord 17 = .ok (.putfield 105, 3) := by decide +kernel
theorem dX12_readWord_20 : decode cX12_readWord 20 = .ok (.aload_n 0, 1) := by decide +kernel
theorem dX12_readWord_21 : decode cX12_readWord 21 = .ok (.iconst 0, 1) := by decide +kernel
theorem dX12_readWord_22 : decode cX12_readWord 22 = .ok (.putfield 109, 3) := by decide +kernel
theorem dX12_readWord_25 : decode cX12_readWord 25 = .ok (.aload_n 0, 1) := by decide +kernel
theorem dX12_readWord_26 : decode cX12_readWord 26 = .ok (.aload_n 0, 1) := by decide +kernel
theorem dX12_readWord_27 : decode cX12_readWord 27 = .ok (.getfield 80, 3) := by decide +kernel
theorem dX12_readWord_30 : decode cX12_readWord 30 = .ok (.aload_n 0, 1) := by decide +kernel
theorem dX12_readWord_31 : decode cX12_readWord 31 = .ok (.getfield 83, 3) := by decide +kernel
theorem dX12_readWord_34 : decode cX12_readWord 34 = .ok (.invokevirtual 112, 3) := by decide +kernel
theorem dX12_readWord_37 : decode cX12_readWord 37 = .ok (.invokestatic 95, 3) := by decide +kernel
theorem dX12_readWord_40 : decode cX12_readWord 40 = .ok (.ifCond .ne 21, 3) := by decide +kernel
theorem dX12_readWord_43 : decode cX12_readWord 43 = .ok (.aload_n 0, 1) := by decide +kernel
theorem dX12_readWord_44 : decode cX12_readWord 44 = .ok (.aload_n 0, 1) := by decide +kernel
theorem dX12_readWord_45 : decode cX12_readWord 45 = .ok (.getfield 80, 3) := by decide +kernel
theorem dX12_readWord_48 : decode cX12_readWord 48 = .ok (.aload_n 0, 1) := by decide +kernel
theorem dX12_readWord_49 : decode cX12_readWord 49 = .ok (.getfield 83, 3) := by decide +kernel
theorem dX12_readWord_52 : decode cX12_readWord 52 = .ok (.invokevirtual 112, 3) := by decide +kernel
theorem dX12_readWord_55 : decode cX12_readWord 55 = .ok (.invokestatic 99, 3) := by decide +kernel
theorem dX12_readWord_58 : decode cX12_readWord 58 = .ok (.ifCond .eq 106, 3) := by decide +kernel
theorem dX12_readWord_61 : decode cX12_readWord 61 = .ok (.aload_n 0, 1) := by decide +kernel
theorem dX12_readWord_62 : decode cX12_readWord 62 = .ok (.getfield 7, 3) := by decide +kernel
theorem dX12_readWord_65 : decode cX12_readWord 65 = .ok (.aload_n 0, 1) := by decide +kernel
theorem dX12_readWord_66 : decode cX12_readWord 66 = .ok (.getfield 80, 3) := by decide +kernel
theorem dX12_readWord_69 : decode cX12_readWord 69 = .ok (.iaload, 1) := by decide +kernel
theorem dX12_readWord_70 : decode cX12_readWord 70 = .ok (.istore_n 3, 1) := by decide +kernel
theorem dX12_readWord_71 : decode cX12_readWord 71 = .ok (.iload_n 2, 1) := by decide +kernel
theorem dX12_readWord_72 : decode cX12_readWord 72 = .ok (.ifCond .eq 15, 3) := by decide +kernel
theorem dX12_readWord_75 : decode cX12_readWord 75 = .ok (.iload_n 3, 1) := by decide +kernel
theorem dX12_readWord_76 : decode cX12_readWord 76 = .ok (.invokestatic 95, 3) := by decide +kernel
theorem dX12_readWord_79 : decode cX12_readWord 79 = .ok (.iload_n 1, 1) := by decide +kernel
theorem dX12_readWord_80 : decode cX12_readWord 80 = .ok (.if_icmp .ne 7, 3) := by decide +kernel
theorem dX12_readWord_83 : decode cX12_readWord 83 = .ok (.iconst 1, 1) := by decide +kernel
theorem dX12_readWord_84 : decode cX12_readWord 84 = .ok (.goto 4, 3) := by decide +kernel
theorem dX12_readWord_87 : decode cX12_readWord 87 = .ok (.iconst 0, 1) := by decide +kernel
theorem dX12_readWord_88 : decode cX12_readWord 88 = .ok (.istore_n 2, 1) := by decide +kernel
theorem dX12_readWord_89 : decode cX12_readWord 89 = .ok (.aload_n 0, 1) := by decide +kernel
theorem dX12_readWord_90 : decode cX12_readWord 90 = .ok (.getfield 80, 3) := by decide +kernel
theorem dX12_readWord_93 : decode cX12_readWord 93 = .ok (.aload_n 0, 1) := by decide +kernel
theorem dX12_readWord_94 : decode cX12_readWord 94 = .ok (.getfield 89, 3) := by decide +kernel
theorem dX12_readWord_97 : decode cX12_readWord 97 = .ok (.isub, 1) := by decide +kernel
theorem dX12_readWord_98 : decode cX12_readWord 98 = .ok (.bipush 8, 2) := by decide +kernel
theorem dX12_readWord_100 : decode cX12_readWord 100 = .ok (.if_icmp .ge 22, 3) := by decide +kernel
theorem dX12_readWord_103 : decode cX12_readWord 103 = .ok (.aload_n 0, 1) := by decide +kernel
theorem dX12_readWord_104 : decode cX12_readWord 104 = .ok (.ldc2_w 116, 3) := by decide +kernel
theorem dX12_readWord_107 : decode cX12_readWord 107 = .ok (.aload_n 0, 1) := by decide +kernel
theorem dX12_readWord_108 : decode cX12_readWord 108 = .ok (.getfield 105, 3) := by decide +kernel
theorem dX12_readWord_111 : decode cX12_readWord 111 = .ok (.lmul, 1) := by decide +kernel
theorem dX12_readWord_112 : decode cX12_readWord 112 = .ok (.iload_n 3, 1) := by decide +kernel
theorem dX12_readWord_113 : decode cX12_readWord 113 = .ok (.i2l, 1) := by decide +kernel
theorem dX12_readWord_114 : decode cX12_readWord 114 = .ok (.ladd, 1) := by decide +kernel
theorem dX12_readWord_115 : decode cX12_readWord 115 = .ok (.ldc2_w 118, 3) := by decide +kernel
theorem dX12_readWord_118 : decode cX12_readWord 118 = .ok (.lsub, 1) := by decide +kernel
theorem dX12_readWord_119 : decode cX12_readWord 119 = .ok (.putfield 105, 3) := by decide +kernel
theorem dX12_readWord_122 : decode cX12_readWord 122 = .ok (.aload_n 0, 1) := by decide +kernel
theorem dX12_readWord_123 : decode cX12_readWord 123 = .ok (.getfield 80, 3) := by decide +kernel
theorem dX12_readWord_126 : decode cX12_readWord 126 = .ok (.aload_n 0, 1) := by decide +kernel
theorem dX12_readWord_127 : decode cX12_readWord 127 = .ok (.getfield 89, 3) := by decide +kernel
theorem dX12_readWord_130 : decode cX12_readWord 130 = .ok (.isub, 1) := by decide +kernel
theorem dX12_readWord_131 : decode cX12_readWord 131 = .ok (.iconst 4, 1) := by decide +kernel
theorem dX12_readWord_132 : decode cX12_readWord 132 = .ok (.if_icmp .ge 19, 3) := by decide +kernel
theorem dX12_readWord_135 : decode cX12_readWord 135 = .ok (.aload_n 0, 1) := by decide +kernel
theorem dX12_readWord_136 : decode cX12_readWord 136 = .ok (.bipush 10, 2) := by decide +kernel
theorem dX12_readWord_138 : decode cX12_readWord 138 = .ok (.aload_n 0, 1) := by decide +kernel
theorem dX12_readWord_139 : decode cX12_readWord 139 = .ok (.getfield 109, 3) := by decide +kernel
theorem dX12_readWord_142 : decode cX12_readWord 142 = .ok (.imul, 1) := by decide +kernel
theorem dX12_readWord_143 : decode cX12_readWord 143 = .ok (.iload_n 3, 1) := by decide +kernel
theorem dX12_readWord_144 : decode cX12_readWord 144 = .ok (.iadd, 1) := by decide +kernel
theorem dX12_readWord_145 : decode cX12_readWord 145 = .ok (.bipush 48, 2) := by decide +kernel
theorem dX12_readWord_147 : decode cX12_readWord 147 = .ok (.isub, 1) := by decide +kernel
theorem dX12_readWord_148 : decode cX12_readWord 148 = .ok (.putfield 109, 3) := by decide +kernel
theorem dX12_readWord_151 : decode cX12_readWord 151 = .ok (.aload_n 0, 1) := by decide +kernel
theorem dX12_readWord_152 : decode cX12_readWord 152 = .ok (.dup, 1) := by decide +kernel
theorem dX12_readWord_153 : decode cX12_readWord 153 = .ok (.getfield 80, 3) := by decide +kernel
theorem dX12_readWord_156 : decode cX12_readWord 156 = .ok (.iconst 1, 1) := by decide +kernel
theorem dX12_readWord_157 : decode cX12_readWord 157 = .ok (.iadd, 1) := by decide +kernel
theorem dX12_readWord_158 : decode cX12_readWord 158 = .ok (.putfield 80, 3) := by decide +kernel
theorem dX12_readWord_161 : decode cX12_readWord 161 = .ok (.goto (-136), 3) := by decide +kernel
theorem dX12_readWord_164 : decode cX12_readWord 164 = .ok (.aload_n 0, 1) := by decide +kernel
theorem dX12_readWord_165 : decode cX12_readWord 165 = .ok (.iload_n 2, 1) := by decide +kernel
theorem dX12_readWord_166 : decode cX12_readWord 166 = .ok (.ifCond .eq 25, 3) := by decide +kernel
theorem dX12_readWord_169 : decode cX12_readWord 169 = .ok (.aload_n 0, 1) := by decide +kernel
theorem dX12_readWord_170 : decode cX12_readWord 170 = .ok (.getfield 80, 3) := by decide +kernel
theorem dX12_readWord_173 : decode cX12_readWord 173 = .ok (.aload_n 0, 1) := by decide +kernel
theorem dX12_readWord_174 : decode cX12_readWord 174 = .ok (.getfield 89, 3) := by decide +kernel
theorem dX12_readWord_177 : decode cX12_readWord 177 = .ok (.isub, 1) := by decide +kernel
theorem dX12_readWord_178 : decode cX12_readWord 178 = .ok (.iload_n 1, 1) := by decide +kernel
theorem dX12_readWord_179 : decode cX12_readWord 179 = .ok (.ifCond .eq 8, 3) := by decide +kernel
theorem dX12_readWord_182 : decode cX12_readWord 182 = .ok (.bipush 8, 2) := by decide +kernel
theorem dX12_readWord_184 : decode cX12_readWord 184 = .ok (.goto 4, 3) := by decide +kernel
theorem dX12_readWord_187 : decode cX12_readWord 187 = .ok (.iconst 4, 1) := by decide +kernel
theorem dX12_readWord_188 : decode cX12_readWord 188 = .ok (.if_icmp .le 7, 3) := by decide +kernel
theorem dX12_readWord_191 : decode cX12_readWord 191 = .ok (.iconst 1, 1) := by decide +kernel
theorem dX12_readWord_192 : decode cX12_readWord 192 = .ok (.goto 12, 3) := by decide +kernel
theorem dX12_readWord_195 : decode cX12_readWord 195 = .ok (.iload_n 1, 1) := by decide +kernel
theorem dX12_readWord_196 : decode cX12_readWord 196 = .ok (.ifCond .eq 7, 3) := by decide +kernel
theorem dX12_readWord_199 : decode cX12_readWord 199 = .ok (.iconst 2, 1) := by decide +kernel
theorem dX12_readWord_200 : decode cX12_readWord 200 = .ok (.goto 4, 3) := by decide +kernel
theorem dX12_readWord_203 : decode cX12_readWord 203 = .ok (.iconst 3, 1) := by decide +kernel
theorem dX12_readWord_204 : decode cX12_readWord 204 = .ok (.putfield 92, 3) := by decide +kernel
theorem dX12_readWord_207 : decode cX12_readWord 207 = .ok (.return_, 1) := by decide +kernel
theorem dX12_isKey_0 : decode cX12_isKey 0 = .ok (.aload_n 0, 1) := by decide +kernel
theorem dX12_isKey_1 : decode cX12_isKey 1 = .ok (.getfield 92, 3) := by decide +kernel
theorem dX12_isKey_4 : decode cX12_isKey 4 = .ok (.iconst 2, 1) := by decide +kernel
theorem dX12_isKey_5 : decode cX12_isKey 5 = .ok (.if_icmp .ne 16, 3) := by decide +kernel
theorem dX12_isKey_8 : decode cX12_isKey 8 = .ok (.aload_n 0, 1) := by decide +kernel
theorem dX12_isKey_9 : decode cX12_isKey 9 = .ok (.getfield 105, 3) := by decide +kernel
theorem dX12_isKey_12 : decode cX12_isKey 12 = .ok (.lload_n 1, 1) := by decide +kernel
theorem dX12_isKey_13 : decode cX12_isKey 13 = .ok (.lcmp, 1) := by decide +kernel
theorem dX12_isKey_14 : decode cX12_isKey 14 = .ok (.ifCond .ne 7, 3) := by decide +kernel
theorem dX12_isKey_17 : decode cX12_isKey 17 = .ok (.iconst 1, 1) := by decide +kernel
theorem dX12_isKey_18 : decode cX12_isKey 18 = .ok (.goto 4, 3) := by decide +kernel
theorem dX12_isKey_21 : decode cX12_isKey 21 = .ok (.iconst 0, 1) := by decide +kernel
theorem dX12_isKey_22 : decode cX12_isKey 22 = .ok (.ireturn, 1) := by decide +kernel
theorem dX12_isFree_0 : decode cX12_isFree 0 = .ok (.aload_n 0, 1) := by decide +kernel
theorem dX12_isFree_1 : decode cX12_isFree 1 = .ok (.getfield 92, 3) := by decide +kernel
theorem dX12_isFree_4 : decode cX12_isFree 4 = .ok (.iconst 2, 1) := by decide +kernel
theorem dX12_isFree_5 : decode cX12_isFree 5 = .ok (.if_icmp .ne 95, 3) := by decide +kernel
theorem dX12_isFree_8 : decode cX12_isFree 8 = .ok (.aload_n 0, 1) := by decide +kernel
theorem dX12_isFree_9 : decode cX12_isFree 9 = .ok (.getfield 105, 3) := by decide +kernel
theorem dX12_isFree_12 : decode cX12_isFree 12 = .ok (.getstatic 120, 3) := by decide +kernel
theorem dX12_isFree_15 : decode cX12_isFree 15 = .ok (.lcmp, 1) := by decide +kernel
theorem dX12_isFree_16 : decode cX12_isFree 16 = .ok (.ifCond .eq 84, 3) := by decide +kernel
theorem dX12_isFree_19 : decode cX12_isFree 19 = .ok (.aload_n 0, 1) := by decide +kernel
theorem dX12_isFree_20 : decode cX12_isFree 20 = .ok (.getfield 105, 3) := by decide +kernel
theorem dX12_isFree_23 : decode cX12_isFree 23 = .ok (.getstatic 123, 3) := by decide +kernel
theorem dX12_isFree_26 : decode cX12_isFree 26 = .ok (.lcmp, 1) := by decide +kernel
theorem dX12_isFree_27 : decode cX12_isFree 27 = .ok (.ifCond .eq 73, 3) := by decide +kernel
theorem dX12_isFree_30 : decode cX12_isFree 30 = .ok (.aload_n 0, 1) := by decide +kernel
theorem dX12_isFree_31 : decode cX12_isFree 31 = .ok (.getfield 105, 3) := by decide +kernel
theorem dX12_isFree_34 : decode cX12_isFree 34 = .ok (.getstatic 126, 3) := by decide +kernel
theorem dX12_isFree_37 : decode cX12_isFree 37 = .ok (.lcmp, 1) := by decide +kernel
theorem dX12_isFree_38 : decode cX12_isFree 38 = .ok (.ifCond .eq 62, 3) := by decide +kernel
theorem dX12_isFree_41 : decode cX12_isFree 41 = .ok (.aload_n 0, 1) := by decide +kernel
theorem dX12_isFree_42 : decode cX12_isFree 42 = .ok (.getfield 105, 3) := by decide +kernel
theorem dX12_isFree_45 : decode cX12_isFree 45 = .ok (.getstatic 129, 3) := by decide +kernel
theorem dX12_isFree_48 : decode cX12_isFree 48 = .ok (.lcmp, 1) := by decide +kernel
theorem dX12_isFree_49 : decode cX12_isFree 49 = .ok (.ifCond .eq 51, 3) := by decide +kernel
theorem dX12_isFree_52 : decode cX12_isFree 52 = .ok (.aload_n 0, 1) := by decide +kernel
theorem dX12_isFree_53 : decode cX12_isFree 53 = .ok (.getfield 105, 3) := by decide +kernel
theorem dX12_isFree_56 : decode cX12_isFree 56 = .ok (.getstatic 132, 3) := by decide +kernel
theorem dX12_isFree_59 : decode cX12_isFree 59 = .ok (.lcmp, 1) := by decide +kernel
theorem dX12_isFree_60 : decode cX12_isFree 60 = .ok (.ifCond .eq 40, 3) := by decide +kernel
theorem dX12_isFree_63 : decode cX12_isFree 63 = .ok (.aload_n 0, 1) := by decide +kernel
theorem dX12_isFree_64 : decode cX12_isFree 64 = .ok (.getfield 105, 3) := by decide +kernel
theorem dX12_isFree_67 : decode cX12_isFree 67 = .ok (.getstatic 135, 3) := by decide +kernel
theorem dX12_isFree_70 : decode cX12_isFree 70 = .ok (.lcmp, 1) := by decide +kernel
theorem dX12_isFree_71 : decode cX12_isFree 71 = .ok (.ifCond .eq 29, 3) := by decide +kernel
theorem dX12_isFree_74 : decode cX12_isFree 74 = .ok (.aload_n 0, 1) := by decide +kernel
theorem dX12_isFree_75 : decode cX12_isFree 75 = .ok (.getfield 105, 3) := by decide +kernel
theorem dX12_isFree_78 : decode cX12_isFree 78 = .ok (.getstatic 138, 3) := by decide +kernel
theorem dX12_isFree_81 : decode cX12_isFree 81 = .ok (.lcmp, 1) := by decide +kernel
theorem dX12_isFree_82 : decode cX12_isFree 82 = .ok (.ifCond .eq 18, 3) := by decide +kernel
theorem dX12_isFree_85 : decode cX12_isFree 85 = .ok (.aload_n 0, 1) := by decide +kernel
theorem dX12_isFree_86 : decode cX12_isFree 86 = .ok (.getfield 105, 3) := by decide +kernel
theorem dX12_isFree_89 : decode cX12_isFree 89 = .ok (.getstatic 141, 3) := by decide +kernel
theorem dX12_isFree_92 : decode cX12_isFree 92 = .ok (.lcmp, 1) := by decide +kernel
theorem dX12_isFree_93 : decode cX12_isFree 93 = .ok (.ifCond .eq 7, 3) := by decide +kernel
theorem dX12_isFree_96 : decode cX12_isFree 96 = .ok (.iconst 1, 1) := by decide +kernel
theorem dX12_isFree_97 : decode cX12_isFree 97 = .ok (.goto 4, 3) := by decide +kernel
theorem dX12_isFree_100 : decode cX12_isFree 100 = .ok (.iconst 0, 1) := by decide +kernel
theorem dX12_isFree_101 : decode cX12_isFree 101 = .ok (.ireturn, 1) := by decide +kernel
theorem dX12_bad_0 : decode cX12_bad 0 = .ok (.aload_n 0, 1) := by decide +kernel
theorem dX12_bad_1 : decode cX12_bad 1 = .ok (.aload_n 0, 1) := by decide +kernel
theorem dX12_bad_2 : decode cX12_bad 2 = .ok (.getfield 92, 3) := by decide +kernel
theorem dX12_bad_5 : decode cX12_bad 5 = .ok (.iconst 1, 1) := by decide +kernel
theorem dX12_bad_6 : decode cX12_bad 6 = .ok (.if_icmp .ne 7, 3) := by decide +kernel
theorem dX12_bad_9 : decode cX12_bad 9 = .ok (.iconst 1, 1) := by decide +kernel
theorem dX12_bad_10 : decode cX12_bad 10 = .ok (.goto 4, 3) := by decide +kernel
theorem dX12_bad_13 : decode cX12_bad 13 = .ok (.iload_n 1, 1) := by decide +kernel
theorem dX12_bad_14 : decode cX12_bad 14 = .ok (.putfield 144, 3) := by decide +kernel
theorem dX12_bad_17 : decode cX12_bad 17 = .ok (.aload_n 0, 1) := by decide +kernel
theorem dX12_bad_18 : decode cX12_bad 18 = .ok (.aload_n 0, 1) := by decide +kernel
theorem dX12_bad_19 : decode cX12_bad 19 = .ok (.getfield 89, 3) := by decide +kernel
theorem dX12_bad_22 : decode cX12_bad 22 = .ok (.putfield 147, 3) := by decide +kernel
theorem dX12_bad_25 : decode cX12_bad 25 = .ok (.iconst 0, 1) := by decide +kernel
theorem dX12_bad_26 : decode cX12_bad 26 = .ok (.ireturn, 1) := by decide +kernel
theorem dX12_find_0 : decode cX12_find 0 = .ok (.iconst 0, 1) := by decide +kernel
theorem dX12_find_1 : decode cX12_find 1 = .ok (.istore_n 2, 1) := by decide +kernel
theorem dX12_find_2 : decode cX12_find 2 = .ok (.iload_n 2, 1) := by decide +kernel
theorem dX12_find_3 : decode cX12_find 3 = .ok (.iload_n 1, 1) := by decide +kernel
theorem dX12_find_4 : decode cX12_find 4 = .ok (.if_icmp .ge 25, 3) := by decide +kernel
theorem dX12_find_7 : decode cX12_find 7 = .ok (.aload_n 0, 1) := by decide +kernel
theorem dX12_find_8 : decode cX12_find 8 = .ok (.getfield 13, 3) := by decide +kernel
theorem dX12_find_11 : decode cX12_find 11 = .ok (.iload_n 2, 1) := by decide +kernel
theorem dX12_find_12 : decode cX12_find 12 = .ok (.laload, 1) := by decide +kernel
theorem dX12_find_13 : decode cX12_find 13 = .ok (.aload_n 0, 1) := by decide +kernel
theorem dX12_find_14 : decode cX12_find 14 = .ok (.getfield 105, 3) := by decide +kernel
theorem dX12_find_17 : decode cX12_find 17 = .ok (.lcmp, 1) := by decide +kernel
theorem dX12_find_18 : decode cX12_find 18 = .ok (.ifCond .ne 5, 3) := by decide +kernel
theorem dX12_find_21 : decode cX12_find 21 = .ok (.iload_n 2, 1) := by decide +kernel
theorem dX12_find_22 : decode cX12_find 22 = .ok (.ireturn, 1) := by decide +kernel
theorem dX12_find_23 : decode cX12_find 23 = .ok (.iinc 2 1, 3) := by decide +kernel
theorem dX12_find_26 : decode cX12_find 26 = .ok (.goto (-24), 3) := by decide +kernel
theorem dX12_find_29 : decode cX12_find 29 = .ok (.iconst (-1), 1) := by decide +kernel
theorem dX12_find_30 : decode cX12_find 30 = .ok (.ireturn, 1) := by decide +kernel
set_option maxRecDepth 20000 in
theorem ggX12_readHappening_X12_isFree : GoodIn wsX12_readHappening wsX12_isFree := goodIn_r _ [8, 9, 3, 10, 11, 12, 13, 14, 15, 16, 17, 57, 58, 59, 60, 61, 62, 63, 64, 65, 66, 67, 68, 69, 70, 71, 72, 73, 74, 75, 76, 77, 78, 79, 80, 81, 82, 83, 84, 85, 86, 87, 88, 89] rfl (by decide +kernel)
set_option maxRecDepth 20000 in
theorem gX12_readHappening_X12_isFree : GoodIn wsX12_readHappening (wsV RX12 150 RX12 yX12_isFree wsX12_isFree) := goodIn_app (goodIn_of _ (by decide +kernel)) ggX12_readHappening_X12_isFree
set_option maxRecDepth 20000 in
theorem ggX12_readHappening_X12_bad : GoodIn wsX12_readHappening wsX12_bad := goodIn_r _ [21, 9, 22, 23, 24, 57, 58, 59, 60, 61, 62, 63, 64, 65, 66, 67, 68, 69, 70, 71, 72, 73, 74, 75, 76, 77, 78, 79, 80, 81, 82, 83, 84, 85, 86, 87, 88, 89] rfl (by decide +kernel)
set_option maxRecDepth 20000 in
theorem gX12_readHappening_X12_bad : GoodIn wsX12_readHappening (wsV RX12 154 RX12 yX12_bad wsX12_bad) := goodIn_app (goodIn_of _ (by decide +kernel)) ggX12_readHappening_X12_bad
set_option maxRecDepth 20000 in
theorem ggX12_readHappening_X12_find : GoodIn wsX12_readHappening wsX12_find := goodIn_r _ [28, 2, 3, 57, 58, 59, 60, 61, 62, 63, 64, 65, 66, 67, 68, 69, 70, 71, 72, 73, 74, 75, 76, 77, 78, 79, 80, 81, 82, 83, 84, 85, 86, 87, 88, 89] rfl (by decide +kernel)
set_option maxRecDepth 20000 in
theorem gX12_readHappening_X12_find : GoodIn wsX12_readHappening (wsV RX12 160 RX12 yX12_find wsX12_find) := goodIn_app (goodIn_of _ (by decide +kernel)) ggX12_readHappening_X12_find
set_option maxRecDepth 20000 in
theorem ggX12_readHappening_X12_go : GoodIn wsX12_readHappening wsX12_go := goodIn_r _ [32, 33, 23, 34, 9, 35, 36, 37, 38, 7, 39, 40, 41, 42, 43, 44, 45, 46, 47, 48, 49, 3, 50, 51, 52, 53, 54, 55, 56, 57, 58, 59, 60, 61, 62, 63, 64, 65, 66, 67, 68, 69, 70, 71, 72, 73, 74, 75, 76, 77, 78, 79, 80, 81, 82, 83, 84, 85, 86, 87, 88, 89] rfl (by decide +kernel)
set_option maxRecDepth 20000 in
theorem gX12_readHappening_X12_go : GoodIn wsX12_readHappening (wsV RX12 164 RX12 yX12_go wsX12_go) := goodIn_app (goodIn_of _ (by decide +kernel)) ggX12_readHappening_X12_go
theorem dX12_readHappening_0 : decode cX12_readHappening 0 = .ok (.aload_n 0, 1) := by decide +kernel
theorem dX12_readHappening_1 : decode cX12_readHappening 1 = .ok (.invokevirtual 150, 3) := by decide +kernel
theorem dX12_readHappening_4 : decode cX12_readHappening 4 = .ok (.ifCond .ne 11, 3) := by decide +kernel
theorem dX12_readHappening_7 : decode cX12_readHappening 7 = .ok (.aload_n 0, 1) := by decide +kernel
theorem dX12_readHappening_8 : decode cX12_readHappening 8 = .ok (.iconst 1, 1) := by decide +kernel
theorem dX12_readHappening_9 : decode cX12_readHappening 9 = .ok (.invokevirtual 154, 3) := by decide +kernel
theorem dX12_readHappening_12 : decode cX12_readHappening 12 = .ok (.pop, 1) := by decide +kernel
theorem dX12_readHappening_13 : decode cX12_readHappening 13 = .ok (.iconst (-1), 1) := by decide +kernel
theorem dX12_readHappening_14 : decode cX12_readHappening 14 = .ok (.ireturn, 1) := by decide +kernel
theorem dX12_readHappening_15 : decode cX12_readHappening 15 = .ok (.aload_n 0, 1) := by decide +kernel
theorem dX12_readHappening_16 : decode cX12_readHappening 16 = .ok (.aload_n 0, 1) := by decide +kernel
theorem dX12_readHappening_17 : decode cX12_readHappening 17 = .ok (.getfield 157, 3) := by decide +kernel
theorem dX12_readHappening_20 : decode cX12_readHappening 20 = .ok (.invokevirtual 160, 3) := by decide +kernel
theorem dX12_readHappening_23 : decode cX12_readHappening 23 = .ok (.istore_n 2, 1) := by decide +kernel
theorem dX12_readHappening_24 : decode cX12_readHappening 24 = .ok (.iload_n 2, 1) := by decide +kernel
theorem dX12_readHappening_25 : decode cX12_readHappening 25 = .ok (.iconst (-1), 1) := by decide +kernel
theorem dX12_readHappening_26 : decode cX12_readHappening 26 = .ok (.if_icmp .eq 16, 3) := by decide +kernel
theorem dX12_readHappening_29 : decode cX12_readHappening 29 = .ok (.iload_n 2, 1) := by decide +kernel
theorem dX12_readHappening_30 : decode cX12_readHappening 30 = .ok (.iload_n 1, 1) := by decide +kernel
theorem dX12_readHappening_31 : decode cX12_readHappening 31 = .ok (.if_icmp .ne 11, 3) := by decide +kernel
theorem dX12_readHappening_34 : decode cX12_readHappening 34 = .ok (.aload_n 0, 1) := by decide +kernel
theorem dX12_readHappening_35 : decode cX12_readHappening 35 = .ok (.iconst 3, 1) := by decide +kernel
theorem dX12_readHappening_36 : decode cX12_readHappening 36 = .ok (.invokevirtual 154, 3) := by decide +kernel
theorem dX12_readHappening_39 : decode cX12_readHappening 39 = .ok (.pop, 1) := by decide +kernel
theorem dX12_readHappening_40 : decode cX12_readHappening 40 = .ok (.iconst (-1), 1) := by decide +kernel
theorem dX12_readHappening_41 : decode cX12_readHappening 41 = .ok (.ireturn, 1) := by decide +kernel
theorem dX12_readHappening_42 : decode cX12_readHappening 42 = .ok (.iload_n 2, 1) := by decide +kernel
theorem dX12_readHappening_43 : decode cX12_readHappening 43 = .ok (.iconst (-1), 1) := by decide +kernel
theorem dX12_readHappening_44 : decode cX12_readHappening 44 = .ok (.if_icmp .ne 45, 3) := by decide +kernel
theorem dX12_readHappening_47 : decode cX12_readHappening 47 = .ok (.aload_n 0, 1) := by decide +kernel
theorem dX12_readHappening_48 : decode cX12_readHappening 48 = .ok (.getfield 157, 3) := by decide +kernel
theorem dX12_readHappening_51 : decode cX12_readHappening 51 = .ok (.bipush 20, 2) := by decide +kernel
theorem dX12_readHappening_53 : decode cX12_readHappening 53 = .ok (.if_icmp .ne 11, 3) := by decide +kernel
theorem dX12_readHappening_56 : decode cX12_readHappening 56 = .ok (.aload_n 0, 1) := by decide +kernel
theorem dX12_readHappening_57 : decode cX12_readHappening 57 = .ok (.iconst 4, 1) := by decide +kernel
theorem dX12_readHappening_58 : decode cX12_readHappening 58 = .ok (.invokevirtual 154, 3) := by decide +kernel
theorem dX12_readHappening_61 : decode cX12_readHappening 61 = .ok (.pop, 1) := by decide +kernel
theorem dX12_readHappening_62 : decode cX12_readHappening 62 = .ok (.iconst (-1), 1) := by decide +kernel
theorem dX12_readHappening_63 : decode cX12_readHappening 63 = .ok (.ireturn, 1) := by decide +kernel
theorem dX12_readHappening_64 : decode cX12_readHappening 64 = .ok (.aload_n 0, 1) := by decide +kernel
theorem dX12_readHappening_65 : decode cX12_readHappening 65 = .ok (.getfield 157, 3) := by decide +kernel
theorem dX12_readHappening_68 : decode cX12_readHappening 68 = .ok (.istore_n 2, 1) := by decide +kernel
theorem dX12_readHappening_69 : decode cX12_readHappening 69 = .ok (.aload_n 0, 1) := by decide +kernel
theorem dX12_readHappening_70 : decode cX12_readHappening 70 = .ok (.getfield 13, 3) := by decide +kernel
theorem dX12_readHappening_73 : decode cX12_readHappening 73 = .ok (.iload_n 2, 1) := by decide +kernel
theorem dX12_readHappening_74 : decode cX12_readHappening 74 = .ok (.aload_n 0, 1) := by decide +kernel
theorem dX12_readHappening_75 : decode cX12_readHappening 75 = .ok (.getfield 105, 3) := by decide +kernel
theorem dX12_readHappening_78 : decode cX12_readHappening 78 = .ok (.lastore, 1) := by decide +kernel
theorem dX12_readHappening_79 : decode cX12_readHappening 79 = .ok (.aload_n 0, 1) := by decide +kernel
theorem dX12_readHappening_80 : decode cX12_readHappening 80 = .ok (.dup, 1) := by decide +kernel
theorem dX12_readHappening_81 : decode cX12_readHappening 81 = .ok (.getfield 157, 3) := by decide +kernel
theorem dX12_readHappening_84 : decode cX12_readHappening 84 = .ok (.iconst 1, 1) := by decide +kernel
theorem dX12_readHappening_85 : decode cX12_readHappening 85 = .ok (.iadd, 1) := by decide +kernel
theorem dX12_readHappening_86 : decode cX12_readHappening 86 = .ok (.putfield 157, 3) := by decide +kernel
theorem dX12_readHappening_89 : decode cX12_readHappening 89 = .ok (.aload_n 0, 1) := by decide +kernel
theorem dX12_readHappening_90 : decode cX12_readHappening 90 = .ok (.invokevirtual 164, 3) := by decide +kernel
theorem dX12_readHappening_93 : decode cX12_readHappening 93 = .ok (.iload_n 2, 1) := by decide +kernel
theorem dX12_readHappening_94 : decode cX12_readHappening 94 = .ok (.ireturn, 1) := by decide +kernel
set_option maxRecDepth 20000 in
theorem ggX12_readNumber_X12_bad : GoodIn wsX12_readNumber wsX12_bad := goodIn_r _ [7, 1, 8, 9, 10, 39, 40, 41, 42, 43, 44, 45, 46, 47, 48, 49, 50, 51, 52, 53, 54, 55, 56, 57, 58, 59, 60, 61, 62, 63, 64, 65, 66, 67, 68, 69, 70, 71] rfl (by decide +kernel)
set_option maxRecDepth 20000 in
theorem gX12_readNumber_X12_bad : GoodIn wsX12_readNumber (wsV RX12 154 RX12 yX12_bad wsX12_bad) := goodIn_app (goodIn_of _ (by decide +kernel)) ggX12_readNumber_X12_bad
set_option maxRecDepth 20000 in
theorem ggX12_readNumber_X12_go : GoodIn wsX12_readNumber wsX12_go := goodIn_r _ [14, 15, 9, 16, 1, 17, 18, 19, 20, 6, 21, 22, 23, 24, 25, 26, 27, 28, 29, 30, 31, 32, 2, 33, 34, 35, 36, 37, 38, 39, 40, 41, 42, 43, 44, 45, 46, 47, 48, 49, 50, 51, 52, 53, 54, 55, 56, 57, 58, 59, 60, 61, 62, 63, 64, 65, 66, 67, 68, 69, 70, 71] rfl (by decide +kernel)
set_option maxRecDepth 20000 in
theorem gX12_readNumber_X12_go : GoodIn wsX12_readNumber (wsV RX12 164 RX12 yX12_go wsX12_go) := goodIn_app (goodIn_of _ (by decide +kernel)) ggX12_readNumber_X12_go
theorem dX12_readNumber_0 : decode cX12_readNumber 0 = .ok (.aload_n 0, 1) := by decide +kernel
theorem dX12_readNumber_1 : decode cX12_readNumber 1 = .ok (.getfield 92, 3) := by decide +kernel
theorem dX12_readNumber_4 : decode cX12_readNumber 4 = .ok (.iconst 3, 1) := by decide +kernel
theorem dX12_readNumber_5 : decode cX12_readNumber 5 = .ok (.if_icmp .eq 11, 3) := by decide +kernel
theorem dX12_readNumber_8 : decode cX12_readNumber 8 = .ok (.aload_n 0, 1) := by decide +kernel
theorem dX12_readNumber_9 : decode cX12_readNumber 9 = .ok (.iconst 1, 1) := by decide +kernel
theorem dX12_readNumber_10 : decode cX12_readNumber 10 = .ok (.invokevirtual 154, 3) := by decide +kernel
theorem dX12_readNumber_13 : decode cX12_readNumber 13 = .ok (.pop, 1) := by decide +kernel
theorem dX12_readNumber_14 : decode cX12_readNumber 14 = .ok (.iconst (-1), 1) := by decide +kernel
theorem dX12_readNumber_15 : decode cX12_readNumber 15 = .ok (.ireturn, 1) := by decide +kernel
theorem dX12_readNumber_16 : decode cX12_readNumber 16 = .ok (.aload_n 0, 1) := by decide +kernel
theorem dX12_readNumber_17 : decode cX12_readNumber 17 = .ok (.getfield 109, 3) := by decide +kernel
theorem dX12_readNumber_20 : decode cX12_readNumber 20 = .ok (.iload_n 1, 1) := by decide +kernel
theorem dX12_readNumber_21 : decode cX12_readNumber 21 = .ok (.if_icmp .ge 11, 3) := by decide +kernel
theorem dX12_readNumber_24 : decode cX12_readNumber 24 = .ok (.aload_n 0, 1) := by decide +kernel
theorem dX12_readNumber_25 : decode cX12_readNumber 25 = .ok (.iconst 2, 1) := by decide +kernel
theorem dX12_readNumber_26 : decode cX12_readNumber 26 = .ok (.invokevirtual 154, 3) := by decide +kernel
theorem dX12_readNumber_29 : decode cX12_readNumber 29 = .ok (.pop, 1) := by decide +kernel
theorem dX12_readNumber_30 : decode cX12_readNumber 30 = .ok (.iconst (-1), 1) := by decide +kernel
theorem dX12_readNumber_31 : decode cX12_readNumber 31 = .ok (.ireturn, 1) := by decide +kernel
theorem dX12_readNumber_32 : decode cX12_readNumber 32 = .ok (.aload_n 0, 1) := by decide +kernel
theorem dX12_readNumber_33 : decode cX12_readNumber 33 = .ok (.getfield 109, 3) := by decide +kernel
theorem dX12_readNumber_36 : decode cX12_readNumber 36 = .ok (.istore_n 2, 1) := by decide +kernel
theorem dX12_readNumber_37 : decode cX12_readNumber 37 = .ok (.aload_n 0, 1) := by decide +kernel
theorem dX12_readNumber_38 : decode cX12_readNumber 38 = .ok (.invokevirtual 164, 3) := by decide +kernel
theorem dX12_readNumber_41 : decode cX12_readNumber 41 = .ok (.iload_n 2, 1) := by decide +kernel
theorem dX12_readNumber_42 : decode cX12_readNumber 42 = .ok (.ireturn, 1) := by decide +kernel
set_option maxRecDepth 20000 in
theorem ggX12_readSpan_X12_readNumber : GoodIn wsX12_readSpan wsX12_readNumber := goodIn_r _ [8, 9, 10, 11, 12, 13, 7, 14, 15, 16, 17, 18, 19, 20, 21, 22, 23, 24, 25, 26, 27, 28, 29, 30, 31, 32, 33, 34, 35, 36, 37, 38, 39, 40, 41, 42, 43, 44, 45, 50, 51, 52, 53, 54, 55, 56, 57, 58, 59, 60, 61, 62, 63, 64, 65, 66, 67, 68, 69, 70, 71, 72, 73, 74, 75, 76, 77, 78, 79, 80, 81, 82] rfl (by decide +kernel)
set_option maxRecDepth 20000 in
theorem gX12_readSpan_X12_readNumber : GoodIn wsX12_readSpan (wsV RX12 167 RX12 yX12_readNumber wsX12_readNumber) := goodIn_app (goodIn_of _ (by decide +kernel)) ggX12_readSpan_X12_readNumber
set_option maxRecDepth 20000 in
theorem ggX12_readSpan_X12_isKey : GoodIn wsX12_readSpan wsX12_isKey := goodIn_r _ [49, 9, 39, 50, 51, 52, 53, 54, 55, 56, 57, 58, 59, 60, 61, 62, 63, 64, 65, 66, 67, 68, 69, 70, 71, 72, 73, 74, 75, 76, 77, 78, 79, 80, 81, 82] rfl (by decide +kernel)
set_option maxRecDepth 20000 in
theorem gX12_readSpan_X12_isKey : GoodIn wsX12_readSpan (wsV RX12 170 RX12 yX12_isKey wsX12_isKey) := goodIn_app (goodIn_of _ (by decide +kernel)) ggX12_readSpan_X12_isKey
set_option maxRecDepth 20000 in
theorem ggX12_readSpan_X12_bad : GoodIn wsX12_readSpan wsX12_bad := goodIn_r _ [14, 9, 15, 16, 17, 50, 51, 52, 53, 54, 55, 56, 57, 58, 59, 60, 61, 62, 63, 64, 65, 66, 67, 68, 69, 70, 71, 72, 73, 74, 75, 76, 77, 78, 79, 80, 81, 82] rfl (by decide +kernel)
set_option maxRecDepth 20000 in
theorem gX12_readSpan_X12_bad : GoodIn wsX12_readSpan (wsV RX12 154 RX12 yX12_bad wsX12_bad) := goodIn_app (goodIn_of _ (by decide +kernel)) ggX12_readSpan_X12_bad
set_option maxRecDepth 20000 in
theorem ggX12_readSpan_X12_go : GoodIn wsX12_readSpan wsX12_go := goodIn_r _ [21, 22, 16, 23, 9, 24, 25, 26, 27, 7, 28, 29, 30, 31, 32, 33, 34, 35, 36, 37, 38, 39, 10, 40, 41, 42, 43, 44, 45, 50, 51, 52, 53, 54, 55, 56, 57, 58, 59, 60, 61, 62, 63, 64, 65, 66, 67, 68, 69, 70, 71, 72, 73, 74, 75, 76, 77, 78, 79, 80, 81, 82] rfl (by decide +kernel)
set_option maxRecDepth 20000 in
theorem gX12_readSpan_X12_go : GoodIn wsX12_readSpan (wsV RX12 164 RX12 yX12_go wsX12_go) := goodIn_app (goodIn_of _ (by decide +kernel)) ggX12_readSpan_X12_go
theorem dX12_readSpan_0 : decode cX12_readSpan 0 = .ok (.aload_n 0, 1) := by decide +kernel
theorem dX12_readSpan_1 : decode cX12_readSpan 1 = .ok (.getfield 29, 3) := by decide +kernel
theorem dX12_readSpan_4 : decode cX12_readSpan 4 = .ok (.iload_n 1, 1) := by decide +kernel
theorem dX12_readSpan_5 : decode cX12_readSpan 5 = .ok (.aload_n 0, 1) := by decide +kernel
theorem dX12_readSpan_6 : decode cX12_readSpan 6 = .ok (.iload_n 2, 1) := by decide +kernel
theorem dX12_readSpan_7 : decode cX12_readSpan 7 = .ok (.invokevirtual 167, 3) := by decide +kernel
theorem dX12_readSpan_10 : decode cX12_readSpan 10 = .ok (.iastore, 1) := by decide +kernel
theorem dX12_readSpan_11 : decode cX12_readSpan 11 = .ok (.aload_n 0, 1) := by decide +kernel
theorem dX12_readSpan_12 : decode cX12_readSpan 12 = .ok (.getfield 29, 3) := by decide +kernel
theorem dX12_readSpan_15 : decode cX12_readSpan 15 = .ok (.iload_n 1, 1) := by decide +kernel
theorem dX12_readSpan_16 : decode cX12_readSpan 16 = .ok (.iaload, 1) := by decide +kernel
theorem dX12_readSpan_17 : decode cX12_readSpan 17 = .ok (.iconst (-1), 1) := by decide +kernel
theorem dX12_readSpan_18 : decode cX12_readSpan 18 = .ok (.if_icmp .ne 5, 3) := by decide +kernel
theorem dX12_readSpan_21 : decode cX12_readSpan 21 = .ok (.iconst 0, 1) := by decide +kernel
theorem dX12_readSpan_22 : decode cX12_readSpan 22 = .ok (.ireturn, 1) := by decide +kernel
theorem dX12_readSpan_23 : decode cX12_readSpan 23 = .ok (.iload_n 3, 1) := by decide +kernel
theorem dX12_readSpan_24 : decode cX12_readSpan 24 = .ok (.ifCond .ne 15, 3) := by decide +kernel
theorem dX12_readSpan_27 : decode cX12_readSpan 27 = .ok (.aload_n 0, 1) := by decide +kernel
theorem dX12_readSpan_28 : decode cX12_readSpan 28 = .ok (.getstatic 126, 3) := by decide +kernel
theorem dX12_readSpan_31 : decode cX12_readSpan 31 = .ok (.invokevirtual 170, 3) := by decide +kernel
theorem dX12_readSpan_34 : decode cX12_readSpan 34 = .ok (.ifCond .ne 5, 3) := by decide +kernel
theorem dX12_readSpan_37 : decode cX12_readSpan 37 = .ok (.iconst 1, 1) := by decide +kernel
theorem dX12_readSpan_38 : decode cX12_readSpan 38 = .ok (.ireturn, 1) := by decide +kernel
theorem dX12_readSpan_39 : decode cX12_readSpan 39 = .ok (.aload_n 0, 1) := by decide +kernel
theorem dX12_readSpan_40 : decode cX12_readSpan 40 = .ok (.getstatic 126, 3) := by decide +kernel
theorem dX12_readSpan_43 : decode cX12_readSpan 43 = .ok (.invokevirtual 170, 3) := by decide +kernel
theorem dX12_readSpan_46 : decode cX12_readSpan 46 = .ok (.ifCond .ne 9, 3) := by decide +kernel
theorem dX12_readSpan_49 : decode cX12_readSpan 49 = .ok (.aload_n 0, 1) := by decide +kernel
theorem dX12_readSpan_50 : decode cX12_readSpan 50 = .ok (.iconst 1, 1) := by decide +kernel
theorem dX12_readSpan_51 : decode cX12_readSpan 51 = .ok (.invokevirtual 154, 3) := by decide +kernel
theorem dX12_readSpan_54 : decode cX12_readSpan 54 = .ok (.ireturn, 1) := by decide +kernel
theorem dX12_readSpan_55 : decode cX12_readSpan 55 = .ok (.aload_n 0, 1) := by decide +kernel
theorem dX12_readSpan_56 : decode cX12_readSpan 56 = .ok (.invokevirtual 164, 3) := by decide +kernel
theorem dX12_readSpan_59 : decode cX12_readSpan 59 = .ok (.aload_n 0, 1) := by decide +kernel
theorem dX12_readSpan_60 : decode cX12_readSpan 60 = .ok (.getfield 32, 3) := by decide +kernel
theorem dX12_readSpan_63 : decode cX12_readSpan 63 = .ok (.iload_n 1, 1) := by decide +kernel
theorem dX12_readSpan_64 : decode cX12_readSpan 64 = .ok (.aload_n 0, 1) := by decide +kernel
theorem dX12_readSpan_65 : decode cX12_readSpan 65 = .ok (.aload_n 0, 1) := by decide +kernel
theorem dX12_readSpan_66 : decode cX12_readSpan 66 = .ok (.getfield 29, 3) := by decide +kernel
theorem dX12_readSpan_69 : decode cX12_readSpan 69 = .ok (.iload_n 1, 1) := by decide +kernel
theorem dX12_readSpan_70 : decode cX12_readSpan 70 = .ok (.iaload, 1) := by decide +kernel
theorem dX12_readSpan_71 : decode cX12_readSpan 71 = .ok (.invokevirtual 167, 3) := by decide +kernel
theorem dX12_readSpan_74 : decode cX12_readSpan 74 = .ok (.iastore, 1) := by decide +kernel
theorem dX12_readSpan_75 : decode cX12_readSpan 75 = .ok (.aload_n 0, 1) := by decide +kernel
theorem dX12_readSpan_76 : decode cX12_readSpan 76 = .ok (.getfield 32, 3) := by decide +kernel
theorem dX12_readSpan_79 : decode cX12_readSpan 79 = .ok (.iload_n 1, 1) := by decide +kernel
theorem dX12_readSpan_80 : decode cX12_readSpan 80 = .ok (.iaload, 1) := by decide +kernel
theorem dX12_readSpan_81 : decode cX12_readSpan 81 = .ok (.iconst (-1), 1) := by decide +kernel
theorem dX12_readSpan_82 : decode cX12_readSpan 82 = .ok (.if_icmp .eq 7, 3) := by decide +kernel
theorem dX12_readSpan_85 : decode cX12_readSpan 85 = .ok (.iconst 1, 1) := by decide +kernel
theorem dX12_readSpan_86 : decode cX12_readSpan 86 = .ok (.goto 4, 3) := by decide +kernel
theorem dX12_readSpan_89 : decode cX12_readSpan 89 = .ok (.iconst 0, 1) := by decide +kernel
theorem dX12_readSpan_90 : decode cX12_readSpan 90 = .ok (.ireturn, 1) := by decide +kernel
set_option maxRecDepth 20000 in
theorem ggX12_readSaying_X12_isFree : GoodIn wsX12_readSaying wsX12_isFree := goodIn_r _ [20, 21, 22, 9, 10, 23, 11, 12, 13, 14, 15, 80, 81, 82, 83, 84, 85, 86, 87, 88, 89, 90, 91, 92, 93, 94, 95, 96, 97, 98, 99, 100, 101, 102, 103, 104, 105, 106, 107, 108, 109, 110, 111, 112] rfl (by decide +kernel)
set_option maxRecDepth 20000 in
theorem gX12_readSaying_X12_isFree : GoodIn wsX12_readSaying (wsV RX12 150 RX12 yX12_isFree wsX12_isFree) := goodIn_app (goodIn_of _ (by decide +kernel)) ggX12_readSaying_X12_isFree
set_option maxRecDepth 20000 in
theorem ggX12_readSaying_X12_bad : GoodIn wsX12_readSaying wsX12_bad := goodIn_r _ [27, 21, 28, 3, 29, 80, 81, 82, 83, 84, 85, 86, 87, 88, 89, 90, 91, 92, 93, 94, 95, 96, 97, 98, 99, 100, 101, 102, 103, 104, 105, 106, 107, 108, 109, 110, 111, 112] rfl (by decide +kernel)
set_option maxRecDepth 20000 in
theorem gX12_readSaying_X12_bad : GoodIn wsX12_readSaying (wsV RX12 154 RX12 yX12_bad wsX12_bad) := goodIn_app (goodIn_of _ (by decide +kernel)) ggX12_readSaying_X12_bad
set_option maxRecDepth 20000 in
theorem ggX12_readSaying_X12_readHappening : GoodIn wsX12_readSaying wsX12_readHappening := goodIn_r _ [33, 34, 35, 22, 16, 17, 18, 19, 20, 21, 9, 10, 23, 11, 12, 13, 14, 15, 24, 25, 26, 27, 28, 3, 29, 36, 37, 38, 39, 40, 41, 42, 43, 44, 45, 46, 47, 48, 49, 50, 51, 52, 53, 54, 55, 56, 57, 58, 59, 60, 61, 62, 63, 64, 65, 66, 67, 80, 81, 82, 83, 84, 85, 86, 87, 88, 89, 90, 91, 92, 93, 94, 95, 96, 97, 98, 99, 100, 101, 102, 103, 104, 105, 106, 107, 108, 109, 110, 111, 112] rfl (by decide +kernel)
set_option maxRecDepth 20000 in
theorem gX12_readSaying_X12_readHappening : GoodIn wsX12_readSaying (wsV RX12 174 RX12 yX12_readHappening wsX12_readHappening) := goodIn_app (goodIn_of _ (by decide +kernel)) ggX12_readSaying_X12_readHappening
set_option maxRecDepth 20000 in
theorem ggX12_readSaying_X12_isKey : GoodIn wsX12_readSaying wsX12_isKey := goodIn_r _ [71, 21, 22, 80, 81, 82, 83, 84, 85, 86, 87, 88, 89, 90, 91, 92, 93, 94, 95, 96, 97, 98, 99, 100, 101, 102, 103, 104, 105, 106, 107, 108, 109, 110, 111, 112] rfl (by decide +kernel)
set_option maxRecDepth 20000 in
theorem gX12_readSaying_X12_isKey : GoodIn wsX12_readSaying (wsV RX12 170 RX12 yX12_isKey wsX12_isKey) := goodIn_app (goodIn_of _ (by decide +kernel)) ggX12_readSaying_X12_isKey
set_option maxRecDepth 20000 in
theorem ggX12_readSaying_X12_go : GoodIn wsX12_readSaying wsX12_go := goodIn_r _ [43, 44, 3, 45, 21, 46, 47, 48, 49, 19, 50, 51, 52, 53, 54, 55, 56, 57, 58, 59, 60, 22, 61, 62, 63, 64, 65, 66, 67, 80, 81, 82, 83, 84, 85, 86, 87, 88, 89, 90, 91, 92, 93, 94, 95, 96, 97, 98, 99, 100, 101, 102, 103, 104, 105, 106, 107, 108, 109, 110, 111, 112] rfl (by decide +kernel)
set_option maxRecDepth 20000 in
theorem gX12_readSaying_X12_go : GoodIn wsX12_readSaying (wsV RX12 164 RX12 yX12_go wsX12_go) := goodIn_app (goodIn_of _ (by decide +kernel)) ggX12_readSaying_X12_go
set_option maxRecDepth 20000 in
theorem ggX12_readSaying_X12_readSpan : GoodIn wsX12_readSaying wsX12_readSpan := goodIn_r _ [75, 6, 23, 7, 76, 77, 78, 19, 79, 21, 61, 24, 25, 26, 27, 28, 3, 29, 40, 41, 42, 43, 44, 45, 46, 47, 48, 49, 50, 51, 52, 53, 54, 55, 56, 57, 58, 59, 60, 22, 62, 63, 64, 65, 66, 67, 68, 69, 70, 71, 80, 81, 82, 83, 84, 85, 86, 87, 88, 89, 90, 91, 92, 93, 94, 95, 96, 97, 98, 99, 100, 101, 102, 103, 104, 105, 106, 107, 108, 109, 110, 111, 112] rfl (by decide +kernel)
set_option maxRecDepth 20000 in
theorem gX12_readSaying_X12_readSpan : GoodIn wsX12_readSaying (wsV RX12 177 RX12 yX12_readSpan wsX12_readSpan) := goodIn_app (goodIn_of _ (by decide +kernel)) ggX12_readSaying_X12_readSpan
set_option maxRecDepth 20000 in
theorem ggX12_readSaying_X12_readNumber : GoodIn wsX12_readSaying wsX12_readNumber := goodIn_r _ [79, 21, 61, 24, 25, 26, 19, 27, 28, 3, 29, 40, 41, 42, 43, 44, 45, 46, 47, 48, 49, 50, 51, 52, 53, 54, 55, 56, 57, 58, 59, 60, 22, 62, 63, 64, 65, 66, 67, 80, 81, 82, 83, 84, 85, 86, 87, 88, 89, 90, 91, 92, 93, 94, 95, 96, 97, 98, 99, 100, 101, 102, 103, 104, 105, 106, 107, 108, 109, 110, 111, 112] rfl (by decide +kernel)
set_option maxRecDepth 20000 in
theorem gX12_readSaying_X12_readNumber : GoodIn wsX12_readSaying (wsV RX12 167 RX12 yX12_readNumber wsX12_readNumber) := goodIn_app (goodIn_of _ (by decide +kernel)) ggX12_readSaying_X12_readNumber
theorem dX12_readSaying_0 : decode cX12_readSaying 0 = .ok (.aload_n 0, 1) := by decide +kernel
theorem dX12_readSaying_1 : decode cX12_readSaying 1 = .ok (.invokevirtual 150, 3) := by decide +kernel
theorem dX12_readSaying_4 : decode cX12_readSaying 4 = .ok (.ifCond .eq 21, 3) := by decide +kernel
theorem dX12_readSaying_7 : decode cX12_readSaying 7 = .ok (.aload_n 0, 1) := by decide +kernel
theorem dX12_readSaying_8 : decode cX12_readSaying 8 = .ok (.getfield 17, 3) := by decide +kernel
theorem dX12_readSaying_11 : decode cX12_readSaying 11 = .ok (.bipush 6, 2) := by decide +kernel
theorem dX12_readSaying_13 : decode cX12_readSaying 13 = .ok (.iaload, 1) := by decide +kernel
theorem dX12_readSaying_14 : decode cX12_readSaying 14 = .ok (.bipush 12, 2) := by decide +kernel
theorem dX12_readSaying_16 : decode cX12_readSaying 16 = .ok (.if_icmp .ne 9, 3) := by decide +kernel
theorem dX12_readSaying_19 : decode cX12_readSaying 19 = .ok (.aload_n 0, 1) := by decide +kernel
theorem dX12_readSaying_20 : decode cX12_readSaying 20 = .ok (.iconst 4, 1) := by decide +kernel
theorem dX12_readSaying_21 : decode cX12_readSaying 21 = .ok (.invokevirtual 154, 3) := by decide +kernel
theorem dX12_readSaying_24 : decode cX12_readSaying 24 = .ok (.ireturn, 1) := by decide +kernel
theorem dX12_readSaying_25 : decode cX12_readSaying 25 = .ok (.aload_n 0, 1) := by decide +kernel
theorem dX12_readSaying_26 : decode cX12_readSaying 26 = .ok (.getfield 35, 3) := by decide +kernel
theorem dX12_readSaying_29 : decode cX12_readSaying 29 = .ok (.iload_n 1, 1) := by decide +kernel
theorem dX12_readSaying_30 : decode cX12_readSaying 30 = .ok (.aload_n 0, 1) := by decide +kernel
theorem dX12_readSaying_31 : decode cX12_readSaying 31 = .ok (.getfield 89, 3) := by decide +kernel
theorem dX12_readSaying_34 : decode cX12_readSaying 34 = .ok (.iastore, 1) := by decide +kernel
theorem dX12_readSaying_35 : decode cX12_readSaying 35 = .ok (.aload_n 0, 1) := by decide +kernel
theorem dX12_readSaying_36 : decode cX12_readSaying 36 = .ok (.getfield 23, 3) := by decide +kernel
theorem dX12_readSaying_39 : decode cX12_readSaying 39 = .ok (.iload_n 1, 1) := by decide +kernel
theorem dX12_readSaying_40 : decode cX12_readSaying 40 = .ok (.aload_n 0, 1) := by decide +kernel
theorem dX12_readSaying_41 : decode cX12_readSaying 41 = .ok (.iconst (-1), 1) := by decide +kernel
theorem dX12_readSaying_42 : decode cX12_readSaying 42 = .ok (.invokevirtual 174, 3) := by decide +kernel
theorem dX12_readSaying_45 : decode cX12_readSaying 45 = .ok (.iastore, 1) := by decide +kernel
theorem dX12_readSaying_46 : decode cX12_readSaying 46 = .ok (.aload_n 0, 1) := by decide +kernel
theorem dX12_readSaying_47 : decode cX12_readSaying 47 = .ok (.getfield 23, 3) := by decide +kernel
theorem dX12_readSaying_50 : decode cX12_readSaying 50 = .ok (.iload_n 1, 1) := by decide +kernel
theorem dX12_readSaying_51 : decode cX12_readSaying 51 = .ok (.iaload, 1) := by decide +kernel
theorem dX12_readSaying_52 : decode cX12_readSaying 52 = .ok (.iconst (-1), 1) := by decide +kernel
theorem dX12_readSaying_53 : decode cX12_readSaying 53 = .ok (.if_icmp .ne 5, 3) := by decide +kernel
theorem dX12_readSaying_56 : decode cX12_readSaying 56 = .ok (.iconst 0, 1) := by decide +kernel
theorem dX12_readSaying_57 : decode cX12_readSaying 57 = .ok (.ireturn, 1) := by decide +kernel
theorem dX12_readSaying_58 : decode cX12_readSaying 58 = .ok (.aload_n 0, 1) := by decide +kernel
theorem dX12_readSaying_59 : decode cX12_readSaying 59 = .ok (.getfield 26, 3) := by decide +kernel
theorem dX12_readSaying_62 : decode cX12_readSaying 62 = .ok (.iload_n 1, 1) := by decide +kernel
theorem dX12_readSaying_63 : decode cX12_readSaying 63 = .ok (.iconst (-1), 1) := by decide +kernel
theorem dX12_readSaying_64 : decode cX12_readSaying 64 = .ok (.iastore, 1) := by decide +kernel
theorem dX12_readSaying_65 : decode cX12_readSaying 65 = .ok (.aload_n 0, 1) := by decide +kernel
theorem dX12_readSaying_66 : decode cX12_readSaying 66 = .ok (.getfield 29, 3) := by decide +kernel
theorem dX12_readSaying_69 : decode cX12_readSaying 69 = .ok (.iload_n 1, 1) := by decide +kernel
theorem dX12_readSaying_70 : decode cX12_readSaying 70 = .ok (.iconst (-1), 1) := by decide +kernel
theorem dX12_readSaying_71 : decode cX12_readSaying 71 = .ok (.iastore, 1) := by decide +kernel
theorem dX12_readSaying_72 : decode cX12_readSaying 72 = .ok (.aload_n 0, 1) := by decide +kernel
theorem dX12_readSaying_73 : decode cX12_readSaying 73 = .ok (.getfield 32, 3) := by decide +kernel
theorem dX12_readSaying_76 : decode cX12_readSaying 76 = .ok (.iload_n 1, 1) := by decide +kernel
theorem dX12_readSaying_77 : decode cX12_readSaying 77 = .ok (.iconst (-1), 1) := by decide +kernel
theorem dX12_readSaying_78 : decode cX12_readSaying 78 = .ok (.iastore, 1) := by decide +kernel
theorem dX12_readSaying_79 : decode cX12_readSaying 79 = .ok (.aload_n 0, 1) := by decide +kernel
theorem dX12_readSaying_80 : decode cX12_readSaying 80 = .ok (.getfield 20, 3) := by decide +kernel
theorem dX12_readSaying_83 : decode cX12_readSaying 83 = .ok (.iload_n 1, 1) := by decide +kernel
theorem dX12_readSaying_84 : decode cX12_readSaying 84 = .ok (.aload_n 0, 1) := by decide +kernel
theorem dX12_readSaying_85 : decode cX12_readSaying 85 = .ok (.getstatic 120, 3) := by decide +kernel
theorem dX12_readSaying_88 : decode cX12_readSaying 88 = .ok (.invokevirtual 170, 3) := by decide +kernel
theorem dX12_readSaying_91 : decode cX12_readSaying 91 = .ok (.ifCond .eq 7, 3) := by decide +kernel
theorem dX12_readSaying_94 : decode cX12_readSaying 94 = .ok (.iconst 0, 1) := by decide +kernel
theorem dX12_readSaying_95 : decode cX12_readSaying 95 = .ok (.goto 89, 3) := by decide +kernel
theorem dX12_readSaying_98 : decode cX12_readSaying 98 = .ok (.aload_n 0, 1) := by decide +kernel
theorem dX12_readSaying_99 : decode cX12_readSaying 99 = .ok (.getstatic 123, 3) := by decide +kernel
theorem dX12_readSaying_102 : decode cX12_readSaying 102 = .ok (.invokevirtual 170, 3) := by decide +kernel
theorem dX12_readSaying_105 : decode cX12_readSaying 105 = .ok (.ifCond .eq 7, 3) := by decide +kernel
theorem dX12_readSaying_108 : decode cX12_readSaying 108 = .ok (.iconst 1, 1) := by decide +kernel
theorem dX12_readSaying_109 : decode cX12_readSaying 109 = .ok (.goto 75, 3) := by decide +kernel
theorem dX12_readSaying_112 : decode cX12_readSaying 112 = .ok (.aload_n 0, 1) := by decide +kernel
theorem dX12_readSaying_113 : decode cX12_readSaying 113 = .ok (.getstatic 129, 3) := by decide +kernel
theorem dX12_readSaying_116 : decode cX12_readSaying 116 = .ok (.invokevirtual 170, 3) := by decide +kernel
theorem dX12_readSaying_119 : decode cX12_readSaying 119 = .ok (.ifCond .eq 7, 3) := by decide +kernel
theorem dX12_readSaying_122 : decode cX12_readSaying 122 = .ok (.iconst 2, 1) := by decide +kernel
theorem dX12_readSaying_123 : decode cX12_readSaying 123 = .ok (.goto 61, 3) := by decide +kernel
theorem dX12_readSaying_126 : decode cX12_readSaying 126 = .ok (.aload_n 0, 1) := by decide +kernel
theorem dX12_readSaying_127 : decode cX12_readSaying 127 = .ok (.getstatic 132, 3) := by decide +kernel
theorem dX12_readSaying_130 : decode cX12_readSaying 130 = .ok (.invokevirtual 170, 3) := by decide +kernel
theorem dX12_readSaying_133 : decode cX12_readSaying 133 = .ok (.ifCond .eq 7, 3) := by decide +kernel
theorem dX12_readSaying_136 : decode cX12_readSaying 136 = .ok (.iconst 3, 1) := by decide +kernel
theorem dX12_readSaying_137 : decode cX12_readSaying 137 = .ok (.goto 47, 3) := by decide +kernel
theorem dX12_readSaying_140 : decode cX12_readSaying 140 = .ok (.aload_n 0, 1) := by decide +kernel
theorem dX12_readSaying_141 : decode cX12_readSaying 141 = .ok (.getstatic 135, 3) := by decide +kernel
theorem dX12_readSaying_144 : decode cX12_readSaying 144 = .ok (.invokevirtual 170, 3) := by decide +kernel
theorem dX12_readSaying_147 : decode cX12_readSaying 147 = .ok (.ifCond .eq 7, 3) := by decide +kernel
theorem dX12_readSaying_150 : decode cX12_readSaying 150 = .ok (.iconst 4, 1) := by decide +kernel
theorem dX12_readSaying_151 : decode cX12_readSaying 151 = .ok (.goto 33, 3) := by decide +kernel
theorem dX12_readSaying_154 : decode cX12_readSaying 154 = .ok (.aload_n 0, 1) := by decide +kernel
theorem dX12_readSaying_155 : decode cX12_readSaying 155 = .ok (.getstatic 138, 3) := by decide +kernel
theorem dX12_readSaying_158 : decode cX12_readSaying 158 = .ok (.invokevirtual 170, 3) := by decide +kernel
theorem dX12_readSaying_161 : decode cX12_readSaying 161 = .ok (.ifCond .eq 7, 3) := by decide +kernel
theorem dX12_readSaying_164 : decode cX12_readSaying 164 = .ok (.iconst 5, 1) := by decide +kernel
theorem dX12_readSaying_165 : decode cX12_readSaying 165 = .ok (.goto 19, 3) := by decide +kernel
theorem dX12_readSaying_168 : decode cX12_readSaying 168 = .ok (.aload_n 0, 1) := by decide +kernel
theorem dX12_readSaying_169 : decode cX12_readSaying 169 = .ok (.getstatic 141, 3) := by decide +kernel
theorem dX12_readSaying_172 : decode cX12_readSaying 172 = .ok (.invokevirtual 170, 3) := by decide +kernel
theorem dX12_readSaying_175 : decode cX12_readSaying 175 = .ok (.ifCond .eq 8, 3) := by decide +kernel
theorem dX12_readSaying_178 : decode cX12_readSaying 178 = .ok (.bipush 6, 2) := by decide +kernel
theorem dX12_readSaying_180 : decode cX12_readSaying 180 = .ok (.goto 4, 3) := by decide +kernel
theorem dX12_readSaying_183 : decode cX12_readSaying 183 = .ok (.iconst (-1), 1) := by decide +kernel
theorem dX12_readSaying_184 : decode cX12_readSaying 184 = .ok (.iastore, 1) := by decide +kernel
theorem dX12_readSaying_185 : decode cX12_readSaying 185 = .ok (.aload_n 0, 1) := by decide +kernel
theorem dX12_readSaying_186 : decode cX12_readSaying 186 = .ok (.getfield 20, 3) := by decide +kernel
theorem dX12_readSaying_189 : decode cX12_readSaying 189 = .ok (.iload_n 1, 1) := by decide +kernel
theorem dX12_readSaying_190 : decode cX12_readSaying 190 = .ok (.iaload, 1) := by decide +kernel
theorem dX12_readSaying_191 : decode cX12_readSaying 191 = .ok (.iconst (-1), 1) := by decide +kernel
theorem dX12_readSaying_192 : decode cX12_readSaying 192 = .ok (.if_icmp .ne 9, 3) := by decide +kernel
theorem dX12_readSaying_195 : decode cX12_readSaying 195 = .ok (.aload_n 0, 1) := by decide +kernel
theorem dX12_readSaying_196 : decode cX12_readSaying 196 = .ok (.iconst 1, 1) := by decide +kernel
theorem dX12_readSaying_197 : decode cX12_readSaying 197 = .ok (.invokevirtual 154, 3) := by decide +kernel
theorem dX12_readSaying_200 : decode cX12_readSaying 200 = .ok (.ireturn, 1) := by decide +kernel
theorem dX12_readSaying_201 : decode cX12_readSaying 201 = .ok (.aload_n 0, 1) := by decide +kernel
theorem dX12_readSaying_202 : decode cX12_readSaying 202 = .ok (.invokevirtual 164, 3) := by decide +kernel
theorem dX12_readSaying_205 : decode cX12_readSaying 205 = .ok (.aload_n 0, 1) := by decide +kernel
theorem dX12_readSaying_206 : decode cX12_readSaying 206 = .ok (.getfield 20, 3) := by decide +kernel
theorem dX12_readSaying_209 : decode cX12_readSaying 209 = .ok (.iload_n 1, 1) := by decide +kernel
theorem dX12_readSaying_210 : decode cX12_readSaying 210 = .ok (.iaload, 1) := by decide +kernel
theorem dX12_readSaying_211 : decode cX12_readSaying 211 = .ok (.iconst 1, 1) := by decide +kernel
theorem dX12_readSaying_212 : decode cX12_readSaying 212 = .ok (.if_icmp .eq 13, 3) := by decide +kernel
theorem dX12_readSaying_215 : decode cX12_readSaying 215 = .ok (.aload_n 0, 1) := by decide +kernel
theorem dX12_readSaying_216 : decode cX12_readSaying 216 = .ok (.getfield 20, 3) := by decide +kernel
theorem dX12_readSaying_219 : decode cX12_readSaying 219 = .ok (.iload_n 1, 1) := by decide +kernel
theorem dX12_readSaying_220 : decode cX12_readSaying 220 = .ok (.iaload, 1) := by decide +kernel
theorem dX12_readSaying_221 : decode cX12_readSaying 221 = .ok (.iconst 4, 1) := by decide +kernel
theorem dX12_readSaying_222 : decode cX12_readSaying 222 = .ok (.if_icmp .ne 25, 3) := by decide +kernel
theorem dX12_readSaying_225 : decode cX12_readSaying 225 = .ok (.aload_n 0, 1) := by decide +kernel
theorem dX12_readSaying_226 : decode cX12_readSaying 226 = .ok (.iload_n 1, 1) := by decide +kernel
theorem dX12_readSaying_227 : decode cX12_readSaying 227 = .ok (.iconst 0, 1) := by decide +kernel
theorem dX12_readSaying_228 : decode cX12_readSaying 228 = .ok (.aload_n 0, 1) := by decide +kernel
theorem dX12_readSaying_229 : decode cX12_readSaying 229 = .ok (.getfield 20, 3) := by decide +kernel
theorem dX12_readSaying_232 : decode cX12_readSaying 232 = .ok (.iload_n 1, 1) := by decide +kernel
theorem dX12_readSaying_233 : decode cX12_readSaying 233 = .ok (.iaload, 1) := by decide +kernel
theorem dX12_readSaying_234 : decode cX12_readSaying 234 = .ok (.iconst 1, 1) := by decide +kernel
theorem dX12_readSaying_235 : decode cX12_readSaying 235 = .ok (.if_icmp .ne 7, 3) := by decide +kernel
theorem dX12_readSaying_238 : decode cX12_readSaying 238 = .ok (.iconst 1, 1) := by decide +kernel
theorem dX12_readSaying_239 : decode cX12_readSaying 239 = .ok (.goto 4, 3) := by decide +kernel
theorem dX12_readSaying_242 : decode cX12_readSaying 242 = .ok (.iconst 0, 1) := by decide +kernel
theorem dX12_readSaying_243 : decode cX12_readSaying 243 = .ok (.invokevirtual 177, 3) := by decide +kernel
theorem dX12_readSaying_246 : decode cX12_readSaying 246 = .ok (.ireturn, 1) := by decide +kernel
theorem dX12_readSaying_247 : decode cX12_readSaying 247 = .ok (.aload_n 0, 1) := by decide +kernel
theorem dX12_readSaying_248 : decode cX12_readSaying 248 = .ok (.getfield 20, 3) := by decide +kernel
theorem dX12_readSaying_251 : decode cX12_readSaying 251 = .ok (.iload_n 1, 1) := by decide +kernel
theorem dX12_readSaying_252 : decode cX12_readSaying 252 = .ok (.iaload, 1) := by decide +kernel
theorem dX12_readSaying_253 : decode cX12_readSaying 253 = .ok (.iconst 4, 1) := by decide +kernel
theorem dX12_readSaying_254 : decode cX12_readSaying 254 = .ok (.if_icmp .ge 30, 3) := by decide +kernel
theorem dX12_readSaying_257 : decode cX12_readSaying 257 = .ok (.aload_n 0, 1) := by decide +kernel
theorem dX12_readSaying_258 : decode cX12_readSaying 258 = .ok (.getfield 29, 3) := by decide +kernel
theorem dX12_readSaying_261 : decode cX12_readSaying 261 = .ok (.iload_n 1, 1) := by decide +kernel
theorem dX12_readSaying_262 : decode cX12_readSaying 262 = .ok (.aload_n 0, 1) := by decide +kernel
theorem dX12_readSaying_263 : decode cX12_readSaying 263 = .ok (.iconst 0, 1) := by decide +kernel
theorem dX12_readSaying_264 : decode cX12_readSaying 264 = .ok (.invokevirtual 167, 3) := by decide +kernel
theorem dX12_readSaying_267 : decode cX12_readSaying 267 = .ok (.iastore, 1) := by decide +kernel
theorem dX12_readSaying_268 : decode cX12_readSaying 268 = .ok (.aload_n 0, 1) := by decide +kernel
theorem dX12_readSaying_269 : decode cX12_readSaying 269 = .ok (.getfield 29, 3) := by decide +kernel
theorem dX12_readSaying_272 : decode cX12_readSaying 272 = .ok (.iload_n 1, 1) := by decide +kernel
theorem dX12_readSaying_273 : decode cX12_readSaying 273 = .ok (.iaload, 1) := by decide +kernel
theorem dX12_readSaying_274 : decode cX12_readSaying 274 = .ok (.iconst (-1), 1) := by decide +kernel
theorem dX12_readSaying_275 : decode cX12_readSaying 275 = .ok (.if_icmp .eq 7, 3) := by decide +kernel
theorem dX12_readSaying_278 : decode cX12_readSaying 278 = .ok (.iconst 1, 1) := by decide +kernel
theorem dX12_readSaying_279 : decode cX12_readSaying 279 = .ok (.goto 4, 3) := by decide +kernel
theorem dX12_readSaying_282 : decode cX12_readSaying 282 = .ok (.iconst 0, 1) := by decide +kernel
theorem dX12_readSaying_283 : decode cX12_readSaying 283 = .ok (.ireturn, 1) := by decide +kernel
theorem dX12_readSaying_284 : decode cX12_readSaying 284 = .ok (.aload_n 0, 1) := by decide +kernel
theorem dX12_readSaying_285 : decode cX12_readSaying 285 = .ok (.getfield 26, 3) := by decide +kernel
theorem dX12_readSaying_288 : decode cX12_readSaying 288 = .ok (.iload_n 1, 1) := by decide +kernel
theorem dX12_readSaying_289 : decode cX12_readSaying 289 = .ok (.aload_n 0, 1) := by decide +kernel
theorem dX12_readSaying_290 : decode cX12_readSaying 290 = .ok (.aload_n 0, 1) := by decide +kernel
theorem dX12_readSaying_291 : decode cX12_readSaying 291 = .ok (.getfield 23, 3) := by decide +kernel
theorem dX12_readSaying_294 : decode cX12_readSaying 294 = .ok (.iload_n 1, 1) := by decide +kernel
theorem dX12_readSaying_295 : decode cX12_readSaying 295 = .ok (.iaload, 1) := by decide +kernel
theorem dX12_readSaying_296 : decode cX12_readSaying 296 = .ok (.invokevirtual 174, 3) := by decide +kernel
theorem dX12_readSaying_299 : decode cX12_readSaying 299 = .ok (.iastore, 1) := by decide +kernel
theorem dX12_readSaying_300 : decode cX12_readSaying 300 = .ok (.aload_n 0, 1) := by decide +kernel
theorem dX12_readSaying_301 : decode cX12_readSaying 301 = .ok (.getfield 26, 3) := by decide +kernel
theorem dX12_readSaying_304 : decode cX12_readSaying 304 = .ok (.iload_n 1, 1) := by decide +kernel
theorem dX12_readSaying_305 : decode cX12_readSaying 305 = .ok (.iaload, 1) := by decide +kernel
theorem dX12_readSaying_306 : decode cX12_readSaying 306 = .ok (.iconst (-1), 1) := by decide +kernel
theorem dX12_readSaying_307 : decode cX12_readSaying 307 = .ok (.if_icmp .ne 5, 3) := by decide +kernel
theorem dX12_readSaying_310 : decode cX12_readSaying 310 = .ok (.iconst 0, 1) := by decide +kernel
theorem dX12_readSaying_311 : decode cX12_readSaying 311 = .ok (.ireturn, 1) := by decide +kernel
theorem dX12_readSaying_312 : decode cX12_readSaying 312 = .ok (.aload_n 0, 1) := by decide +kernel
theorem dX12_readSaying_313 : decode cX12_readSaying 313 = .ok (.getfield 20, 3) := by decide +kernel
theorem dX12_readSaying_316 : decode cX12_readSaying 316 = .ok (.iload_n 1, 1) := by decide +kernel
theorem dX12_readSaying_317 : decode cX12_readSaying 317 = .ok (.iaload, 1) := by decide +kernel
theorem dX12_readSaying_318 : decode cX12_readSaying 318 = .ok (.bipush 6, 2) := by decide +kernel
theorem dX12_readSaying_320 : decode cX12_readSaying 320 = .ok (.if_icmp .eq 13, 3) := by decide +kernel
theorem dX12_readSaying_323 : decode cX12_readSaying 323 = .ok (.aload_n 0, 1) := by decide +kernel
theorem dX12_readSaying_324 : decode cX12_readSaying 324 = .ok (.getstatic 129, 3) := by decide +kernel
theorem dX12_readSaying_327 : decode cX12_readSaying 327 = .ok (.invokevirtual 170, 3) := by decide +kernel
theorem dX12_readSaying_330 : decode cX12_readSaying 330 = .ok (.ifCond .ne 5, 3) := by decide +kernel
theorem dX12_readSaying_333 : decode cX12_readSaying 333 = .ok (.iconst 1, 1) := by decide +kernel
theorem dX12_readSaying_334 : decode cX12_readSaying 334 = .ok (.ireturn, 1) := by decide +kernel
theorem dX12_readSaying_335 : decode cX12_readSaying 335 = .ok (.aload_n 0, 1) := by decide +kernel
theorem dX12_readSaying_336 : decode cX12_readSaying 336 = .ok (.invokevirtual 164, 3) := by decide +kernel
theorem dX12_readSaying_339 : decode cX12_readSaying 339 = .ok (.aload_n 0, 1) := by decide +kernel
theorem dX12_readSaying_340 : decode cX12_readSaying 340 = .ok (.iload_n 1, 1) := by decide +kernel
theorem dX12_readSaying_341 : decode cX12_readSaying 341 = .ok (.iconst 1, 1) := by decide +kernel
theorem dX12_readSaying_342 : decode cX12_readSaying 342 = .ok (.iconst 0, 1) := by decide +kernel
theorem dX12_readSaying_343 : decode cX12_readSaying 343 = .ok (.invokevirtual 177, 3) := by decide +kernel
theorem dX12_readSaying_346 : decode cX12_readSaying 346 = .ok (.ireturn, 1) := by decide +kernel
set_option maxRecDepth 20000 in
theorem ggX12_readText_X12_go : GoodIn wsX12_readText wsX12_go := goodIn_r _ [10, 4, 11, 12, 5, 13, 14, 15, 16, 9, 17, 18, 19, 20, 21, 22, 23, 24, 25, 26, 27, 28, 29, 30, 31, 32, 33, 34, 35, 85, 86, 87, 88, 89, 90, 91, 92, 93, 94, 95, 96, 97, 98, 99, 100, 101, 102, 103, 104, 105, 106, 107, 108, 109, 110, 111, 112, 113, 114, 115, 116, 117] rfl (by decide +kernel)
set_option maxRecDepth 20000 in
theorem gX12_readText_X12_go : GoodIn wsX12_readText (wsV RX12 164 RX12 yX12_go wsX12_go) := goodIn_app (goodIn_of _ (by decide +kernel)) ggX12_readText_X12_go
set_option maxRecDepth 20000 in
theorem ggX12_readText_X12_readSaying : GoodIn wsX12_readText wsX12_readSaying := goodIn_r _ [39, 1, 40, 11, 41, 42, 43, 44, 45, 46, 47, 48, 49, 50, 51, 52, 53, 54, 55, 9, 56, 5, 28, 57, 58, 59, 60, 61, 62, 63, 64, 65, 66, 67, 3, 68, 69, 70, 71, 72, 6, 7, 8, 10, 4, 12, 13, 14, 15, 16, 17, 18, 19, 20, 21, 22, 23, 24, 25, 26, 27, 29, 30, 31, 32, 33, 34, 35, 73, 74, 75, 76, 77, 78, 79, 80, 81, 82, 83, 84, 85, 86, 87, 88, 89, 90, 91, 92, 93, 94, 95, 96, 97, 98, 99, 100, 101, 102, 103, 104, 105, 106, 107, 108, 109, 110, 111, 112, 113, 114, 115, 116, 117] rfl (by decide +kernel)
set_option maxRecDepth 20000 in
theorem gX12_readText_X12_readSaying : GoodIn wsX12_readText (wsV RX12 184 RX12 yX12_readSaying wsX12_readSaying) := goodIn_app (goodIn_of _ (by decide +kernel)) ggX12_readText_X12_readSaying
set_option maxRecDepth 20000 in
theorem ggX12_readText_X12_bad : GoodIn wsX12_readText wsX12_bad := goodIn_r _ [61, 5, 62, 11, 63, 85, 86, 87, 88, 89, 90, 91, 92, 93, 94, 95, 96, 97, 98, 99, 100, 101, 102, 103, 104, 105, 106, 107, 108, 109, 110, 111, 112, 113, 114, 115, 116, 117] rfl (by decide +kernel)
set_option maxRecDepth 20000 in
theorem gX12_readText_X12_bad : GoodIn wsX12_readText (wsV RX12 154 RX12 yX12_bad wsX12_bad) := goodIn_app (goodIn_of _ (by decide +kernel)) ggX12_readText_X12_bad
theorem dX12_readText_0 : decode cX12_readText 0 = .ok (.aload_n 0, 1) := by decide +kernel
theorem dX12_readText_1 : decode cX12_readText 1 = .ok (.getfield 17, 3) := by decide +kernel
theorem dX12_readText_4 : decode cX12_readText 4 = .ok (.bipush 6, 2) := by decide +kernel
theorem dX12_readText_6 : decode cX12_readText 6 = .ok (.iconst 0, 1) := by decide +kernel
theorem dX12_readText_7 : decode cX12_readText 7 = .ok (.iastore, 1) := by decide +kernel
theorem dX12_readText_8 : decode cX12_readText 8 = .ok (.aload_n 0, 1) := by decide +kernel
theorem dX12_readText_9 : decode cX12_readText 9 = .ok (.aload_n 0, 1) := by decide +kernel
theorem dX12_readText_10 : decode cX12_readText 10 = .ok (.getfield 181, 3) := by decide +kernel
theorem dX12_readText_13 : decode cX12_readText 13 = .ok (.putfield 157, 3) := by decide +kernel
theorem dX12_readText_16 : decode cX12_readText 16 = .ok (.aload_n 0, 1) := by decide +kernel
theorem dX12_readText_17 : decode cX12_readText 17 = .ok (.iconst 0, 1) := by decide +kernel
theorem dX12_readText_18 : decode cX12_readText 18 = .ok (.putfield 80, 3) := by decide +kernel
theorem dX12_readText_21 : decode cX12_readText 21 = .ok (.aload_n 0, 1) := by decide +kernel
theorem dX12_readText_22 : decode cX12_readText 22 = .ok (.invokevirtual 164, 3) := by decide +kernel
theorem dX12_readText_25 : decode cX12_readText 25 = .ok (.aload_n 0, 1) := by decide +kernel
theorem dX12_readText_26 : decode cX12_readText 26 = .ok (.getfield 92, 3) := by decide +kernel
theorem dX12_readText_29 : decode cX12_readText 29 = .ok (.ifCond .eq 57, 3) := by decide +kernel
theorem dX12_readText_32 : decode cX12_readText 32 = .ok (.aload_n 0, 1) := by decide +kernel
theorem dX12_readText_33 : decode cX12_readText 33 = .ok (.bipush 72, 2) := by decide +kernel
theorem dX12_readText_35 : decode cX12_readText 35 = .ok (.aload_n 0, 1) := by decide +kernel
theorem dX12_readText_36 : decode cX12_readText 36 = .ok (.getfield 17, 3) := by decide +kernel
theorem dX12_readText_39 : decode cX12_readText 39 = .ok (.bipush 6, 2) := by decide +kernel
theorem dX12_readText_41 : decode cX12_readText 41 = .ok (.iaload, 1) := by decide +kernel
theorem dX12_readText_42 : decode cX12_readText 42 = .ok (.bipush 12, 2) := by decide +kernel
theorem dX12_readText_44 : decode cX12_readText 44 = .ok (.irem, 1) := by decide +kernel
theorem dX12_readText_45 : decode cX12_readText 45 = .ok (.iadd, 1) := by decide +kernel
theorem dX12_readText_46 : decode cX12_readText 46 = .ok (.invokevirtual 184, 3) := by decide +kernel
theorem dX12_readText_49 : decode cX12_readText 49 = .ok (.ifCond .ne 5, 3) := by decide +kernel
theorem dX12_readText_52 : decode cX12_readText 52 = .ok (.iconst 0, 1) := by decide +kernel
theorem dX12_readText_53 : decode cX12_readText 53 = .ok (.ireturn, 1) := by decide +kernel
theorem dX12_readText_54 : decode cX12_readText 54 = .ok (.aload_n 0, 1) := by decide +kernel
theorem dX12_readText_55 : decode cX12_readText 55 = .ok (.getfield 92, 3) := by decide +kernel
theorem dX12_readText_58 : decode cX12_readText 58 = .ok (.iconst 4, 1) := by decide +kernel
theorem dX12_readText_59 : decode cX12_readText 59 = .ok (.if_icmp .eq 9, 3) := by decide +kernel
theorem dX12_readText_62 : decode cX12_readText 62 = .ok (.aload_n 0, 1) := by decide +kernel
theorem dX12_readText_63 : decode cX12_readText 63 = .ok (.iconst 1, 1) := by decide +kernel
theorem dX12_readText_64 : decode cX12_readText 64 = .ok (.invokevirtual 154, 3) := by decide +kernel
theorem dX12_readText_67 : decode cX12_readText 67 = .ok (.ireturn, 1) := by decide +kernel
theorem dX12_readText_68 : decode cX12_readText 68 = .ok (.aload_n 0, 1) := by decide +kernel
theorem dX12_readText_69 : decode cX12_readText 69 = .ok (.getfield 17, 3) := by decide +kernel
theorem dX12_readText_72 : decode cX12_readText 72 = .ok (.bipush 6, 2) := by decide +kernel
theorem dX12_readText_74 : decode cX12_readText 74 = .ok (.dup2, 1) := by decide +kernel
theorem dX12_readText_75 : decode cX12_readText 75 = .ok (.iaload, 1) := by decide +kernel
theorem dX12_readText_76 : decode cX12_readText 76 = .ok (.iconst 1, 1) := by decide +kernel
theorem dX12_readText_77 : decode cX12_readText 77 = .ok (.iadd, 1) := by decide +kernel
theorem dX12_readText_78 : decode cX12_readText 78 = .ok (.iastore, 1) := by decide +kernel
theorem dX12_readText_79 : decode cX12_readText 79 = .ok (.aload_n 0, 1) := by decide +kernel
theorem dX12_readText_80 : decode cX12_readText 80 = .ok (.invokevirtual 164, 3) := by decide +kernel
theorem dX12_readText_83 : decode cX12_readText 83 = .ok (.goto (-58), 3) := by decide +kernel
theorem dX12_readText_86 : decode cX12_readText 86 = .ok (.iconst 1, 1) := by decide +kernel
theorem dX12_readText_87 : decode cX12_readText 87 = .ok (.ireturn, 1) := by decide +kernel
theorem dX12_isTeller_0 : decode cX12_isTeller 0 = .ok (.iload_n 0, 1) := by decide +kernel
theorem dX12_isTeller_1 : decode cX12_isTeller 1 = .ok (.ifCond .lt 13, 3) := by decide +kernel
theorem dX12_isTeller_4 : decode cX12_isTeller 4 = .ok (.iload_n 0, 1) := by decide +kernel
theorem dX12_isTeller_5 : decode cX12_isTeller 5 = .ok (.bipush 6, 2) := by decide +kernel
theorem dX12_isTeller_7 : decode cX12_isTeller 7 = .ok (.if_icmp .ge 7, 3) := by decide +kernel
theorem dX12_isTeller_10 : decode cX12_isTeller 10 = .ok (.iconst 1, 1) := by decide +kernel
theorem dX12_isTeller_11 : decode cX12_isTeller 11 = .ok (.goto 4, 3) := by decide +kernel
theorem dX12_isTeller_14 : decode cX12_isTeller 14 = .ok (.iconst 0, 1) := by decide +kernel
theorem dX12_isTeller_15 : decode cX12_isTeller 15 = .ok (.ireturn, 1) := by decide +kernel
set_option maxRecDepth 20000 in
theorem ggX12_tell_X12_isTeller : GoodIn wsX12_tell wsX12_isTeller := goodIn_r _ [18] rfl (by decide +kernel)
set_option maxRecDepth 20000 in
theorem gX12_tell_X12_isTeller : GoodIn wsX12_tell (va_wsS RX12 187 yX12_isTeller wsX12_isTeller) := goodIn_app (goodIn_of _ (by decide +kernel)) ggX12_tell_X12_isTeller
set_option maxRecDepth 20000 in
theorem ggX12_tell_X12_refuse : GoodIn wsX12_tell wsX12_refuse := goodIn_r _ [22, 1, 98, 99, 100, 101, 102, 103, 104, 105, 106, 107, 108, 109, 110, 111, 112, 113, 114, 115, 116, 117, 118, 119, 120, 121, 122, 123, 124, 125, 126, 127, 128, 129, 130] rfl (by decide +kernel)
set_option maxRecDepth 20000 in
theorem gX12_tell_X12_refuse : GoodIn wsX12_tell (wsV RX12 190 RX12 yX12_refuse wsX12_refuse) := goodIn_app (goodIn_of _ (by decide +kernel)) ggX12_tell_X12_refuse
set_option maxRecDepth 20000 in
theorem ggX12_tell_X12_readText : GoodIn wsX12_tell wsX12_readText := goodIn_r _ [26, 8, 7, 6, 27, 28, 29, 30, 31, 17, 32, 33, 3, 34, 35, 36, 37, 38, 39, 40, 41, 42, 43, 44, 45, 46, 47, 48, 49, 50, 51, 52, 53, 54, 55, 56, 57, 58, 59, 60, 14, 10, 11, 12, 13, 9, 61, 62, 63, 64, 65, 66, 67, 68, 69, 70, 71, 72, 73, 74, 75, 76, 4, 5, 77, 78, 79, 80, 81, 82, 83, 84, 85, 86, 87, 88, 89, 90, 91, 92, 93, 94, 95, 96, 97, 98, 99, 100, 101, 102, 103, 104, 105, 106, 107, 108, 109, 110, 111, 112, 113, 114, 115, 116, 117, 118, 119, 120, 121, 122, 123, 124, 125, 126, 127, 128, 129, 130] rfl (by decide +kernel)
set_option maxRecDepth 20000 in
theorem gX12_tell_X12_readText : GoodIn wsX12_tell (wsV RX12 193 RX12 yX12_readText wsX12_readText) := goodIn_app (goodIn_of _ (by decide +kernel)) ggX12_tell_X12_readText
theorem dX12_tell_0 : decode cX12_tell 0 = .ok (.iload_n 1, 1) := by decide +kernel
theorem dX12_tell_1 : decode cX12_tell 1 = .ok (.invokestatic 187, 3) := by decide +kernel
theorem dX12_tell_4 : decode cX12_tell 4 = .ok (.ifCond .ne 9, 3) := by decide +kernel
theorem dX12_tell_7 : decode cX12_tell 7 = .ok (.aload_n 0, 1) := by decide +kernel
theorem dX12_tell_8 : decode cX12_tell 8 = .ok (.iconst 1, 1) := by decide +kernel
theorem dX12_tell_9 : decode cX12_tell 9 = .ok (.invokevirtual 190, 3) := by decide +kernel
theorem dX12_tell_12 : decode cX12_tell 12 = .ok (.ireturn, 1) := by decide +kernel
theorem dX12_tell_13 : decode cX12_tell 13 = .ok (.aload_n 0, 1) := by decide +kernel
theorem dX12_tell_14 : decode cX12_tell 14 = .ok (.iconst 0, 1) := by decide +kernel
theorem dX12_tell_15 : decode cX12_tell 15 = .ok (.putfield 70, 3) := by decide +kernel
theorem dX12_tell_18 : decode cX12_tell 18 = .ok (.aload_n 0, 1) := by decide +kernel
theorem dX12_tell_19 : decode cX12_tell 19 = .ok (.aload_n 0, 1) := by decide +kernel
theorem dX12_tell_20 : decode cX12_tell 20 = .ok (.getfield 73, 3) := by decide +kernel
theorem dX12_tell_23 : decode cX12_tell 23 = .ok (.putfield 83, 3) := by decide +kernel
theorem dX12_tell_26 : decode cX12_tell 26 = .ok (.aload_n 0, 1) := by decide +kernel
theorem dX12_tell_27 : decode cX12_tell 27 = .ok (.iconst 0, 1) := by decide +kernel
theorem dX12_tell_28 : decode cX12_tell 28 = .ok (.putfield 73, 3) := by decide +kernel
theorem dX12_tell_31 : decode cX12_tell 31 = .ok (.aload_n 0, 1) := by decide +kernel
theorem dX12_tell_32 : decode cX12_tell 32 = .ok (.iconst 0, 1) := by decide +kernel
theorem dX12_tell_33 : decode cX12_tell 33 = .ok (.putfield 144, 3) := by decide +kernel
theorem dX12_tell_36 : decode cX12_tell 36 = .ok (.aload_n 0, 1) := by decide +kernel
theorem dX12_tell_37 : decode cX12_tell 37 = .ok (.invokevirtual 193, 3) := by decide +kernel
theorem dX12_tell_40 : decode cX12_tell 40 = .ok (.ifCond .ne 10, 3) := by decide +kernel
theorem dX12_tell_43 : decode cX12_tell 43 = .ok (.iconst (-1), 1) := by decide +kernel
theorem dX12_tell_44 : decode cX12_tell 44 = .ok (.aload_n 0, 1) := by decide +kernel
theorem dX12_tell_45 : decode cX12_tell 45 = .ok (.getfield 147, 3) := by decide +kernel
theorem dX12_tell_48 : decode cX12_tell 48 = .ok (.isub, 1) := by decide +kernel
theorem dX12_tell_49 : decode cX12_tell 49 = .ok (.ireturn, 1) := by decide +kernel
theorem dX12_tell_50 : decode cX12_tell 50 = .ok (.aload_n 0, 1) := by decide +kernel
theorem dX12_tell_51 : decode cX12_tell 51 = .ok (.aload_n 0, 1) := by decide +kernel
theorem dX12_tell_52 : decode cX12_tell 52 = .ok (.getfield 157, 3) := by decide +kernel
theorem dX12_tell_55 : decode cX12_tell 55 = .ok (.putfield 181, 3) := by decide +kernel
theorem dX12_tell_58 : decode cX12_tell 58 = .ok (.aload_n 0, 1) := by decide +kernel
theorem dX12_tell_59 : decode cX12_tell 59 = .ok (.getfield 17, 3) := by decide +kernel
theorem dX12_tell_62 : decode cX12_tell 62 = .ok (.iload_n 1, 1) := by decide +kernel
theorem dX12_tell_63 : decode cX12_tell 63 = .ok (.aload_n 0, 1) := by decide +kernel
theorem dX12_tell_64 : decode cX12_tell 64 = .ok (.getfield 17, 3) := by decide +kernel
theorem dX12_tell_67 : decode cX12_tell 67 = .ok (.bipush 6, 2) := by decide +kernel
theorem dX12_tell_69 : decode cX12_tell 69 = .ok (.iaload, 1) := by decide +kernel
theorem dX12_tell_70 : decode cX12_tell 70 = .ok (.iastore, 1) := by decide +kernel
theorem dX12_tell_71 : decode cX12_tell 71 = .ok (.iconst 0, 1) := by decide +kernel
theorem dX12_tell_72 : decode cX12_tell 72 = .ok (.istore_n 2, 1) := by decide +kernel
theorem dX12_tell_73 : decode cX12_tell 73 = .ok (.iload_n 2, 1) := by decide +kernel
theorem dX12_tell_74 : decode cX12_tell 74 = .ok (.aload_n 0, 1) := by decide +kernel
theorem dX12_tell_75 : decode cX12_tell 75 = .ok (.getfield 17, 3) := by decide +kernel
theorem dX12_tell_78 : decode cX12_tell 78 = .ok (.iload_n 1, 1) := by decide +kernel
theorem dX12_tell_79 : decode cX12_tell 79 = .ok (.iaload, 1) := by decide +kernel
theorem dX12_tell_80 : decode cX12_tell 80 = .ok (.if_icmp .ge 100, 3) := by decide +kernel
theorem dX12_tell_83 : decode cX12_tell 83 = .ok (.bipush 12, 2) := by decide +kernel
theorem dX12_tell_85 : decode cX12_tell 85 = .ok (.iload_n 1, 1) := by decide +kernel
theorem dX12_tell_86 : decode cX12_tell 86 = .ok (.imul, 1) := by decide +kernel
theorem dX12_tell_87 : decode cX12_tell 87 = .ok (.iload_n 2, 1) := by decide +kernel
theorem dX12_tell_88 : decode cX12_tell 88 = .ok (.iadd, 1) := by decide +kernel
theorem dX12_tell_89 : decode cX12_tell 89 = .ok (.istore_n 3, 1) := by decide +kernel
theorem dX12_tell_90 : decode cX12_tell 90 = .ok (.bipush 72, 2) := by decide +kernel
theorem dX12_tell_92 : decode cX12_tell 92 = .ok (.iload_n 2, 1) := by decide +kernel
theorem dX12_tell_93 : decode cX12_tell 93 = .ok (.iadd, 1) := by decide +kernel
theorem dX12_tell_94 : decode cX12_tell 94 = .ok (.istore 4, 2) := by decide +kernel
theorem dX12_tell_96 : decode cX12_tell 96 = .ok (.aload_n 0, 1) := by decide +kernel
theorem dX12_tell_97 : decode cX12_tell 97 = .ok (.getfield 20, 3) := by decide +kernel
theorem dX12_tell_100 : decode cX12_tell 100 = .ok (.iload_n 3, 1) := by decide +kernel
theorem dX12_tell_101 : decode cX12_tell 101 = .ok (.aload_n 0, 1) := by decide +kernel
theorem dX12_tell_102 : decode cX12_tell 102 = .ok (.getfield 20, 3) := by decide +kernel
theorem dX12_tell_105 : decode cX12_tell 105 = .ok (.iload 4, 2) := by decide +kernel
theorem dX12_tell_107 : decode cX12_tell 107 = .ok (.iaload, 1) := by decide +kernel
theorem dX12_tell_108 : decode cX12_tell 108 = .ok (.iastore, 1) := by decide +kernel
theorem dX12_tell_109 : decode cX12_tell 109 = .ok (.aload_n 0, 1) := by decide +kernel
theorem dX12_tell_110 : decode cX12_tell 110 = .ok (.getfield 23, 3) := by decide +kernel
theorem dX12_tell_113 : decode cX12_tell 113 = .ok (.iload_n 3, 1) := by decide +kernel
theorem dX12_tell_114 : decode cX12_tell 114 = .ok (.aload_n 0, 1) := by decide +kernel
theorem dX12_tell_115 : decode cX12_tell 115 = .ok (.getfield 23, 3) := by decide +kernel
theorem dX12_tell_118 : decode cX12_tell 118 = .ok (.iload 4, 2) := by decide +kernel
theorem dX12_tell_120 : decode cX12_tell 120 = .ok (.iaload, 1) := by decide +kernel
theorem dX12_tell_121 : decode cX12_tell 121 = .ok (.iastore, 1) := by decide +kernel
theorem dX12_tell_122 : decode cX12_tell 122 = .ok (.aload_n 0, 1) := by decide +kernel
theorem dX12_tell_123 : decode cX12_tell 123 = .ok (.getfield 26, 3) := by decide +kernel
theorem dX12_tell_126 : decode cX12_tell 126 = .ok (.iload_n 3, 1) := by decide +kernel
theorem dX12_tell_127 : decode cX12_tell 127 = .ok (.aload_n 0, 1) := by decide +kernel
theorem dX12_tell_128 : decode cX12_tell 128 = .ok (.getfield 26, 3) := by decide +kernel
theorem dX12_tell_131 : decode cX12_tell 131 = .ok (.iload 4, 2) := by decide +kernel
theorem dX12_tell_133 : decode cX12_tell 133 = .ok (.iaload, 1) := by decide +kernel
theorem dX12_tell_134 : decode cX12_tell 134 = .ok (.iastore, 1) := by decide +kernel
theorem dX12_tell_135 : decode cX12_tell 135 = .ok (.aload_n 0, 1) := by decide +kernel
theorem dX12_tell_136 : decode cX12_tell 136 = .ok (.getfield 29, 3) := by decide +kernel
theorem dX12_tell_139 : decode cX12_tell 139 = .ok (.iload_n 3, 1) := by decide +kernel
theorem dX12_tell_140 : decode cX12_tell 140 = .ok (.aload_n 0, 1) := by decide +kernel
theorem dX12_tell_141 : decode cX12_tell 141 = .ok (.getfield 29, 3) := by decide +kernel
theorem dX12_tell_144 : decode cX12_tell 144 = .ok (.iload 4, 2) := by decide +kernel
theorem dX12_tell_146 : decode cX12_tell 146 = .ok (.iaload, 1) := by decide +kernel
theorem dX12_tell_147 : decode cX12_tell 147 = .ok (.iastore, 1) := by decide +kernel
theorem dX12_tell_148 : decode cX12_tell 148 = .ok (.aload_n 0, 1) := by decide +kernel
theorem dX12_tell_149 : decode cX12_tell 149 = .ok (.getfield 32, 3) := by decide +kernel
theorem dX12_tell_152 : decode cX12_tell 152 = .ok (.iload_n 3, 1) := by decide +kernel
theorem dX12_tell_153 : decode cX12_tell 153 = .ok (.aload_n 0, 1) := by decide +kernel
theorem dX12_tell_154 : decode cX12_tell 154 = .ok (.getfield 32, 3) := by decide +kernel
theorem dX12_tell_157 : decode cX12_tell 157 = .ok (.iload 4, 2) := by decide +kernel
theorem dX12_tell_159 : decode cX12_tell 159 = .ok (.iaload, 1) := by decide +kernel
theorem dX12_tell_160 : decode cX12_tell 160 = .ok (.iastore, 1) := by decide +kernel
theorem dX12_tell_161 : decode cX12_tell 161 = .ok (.aload_n 0, 1) := by decide +kernel
theorem dX12_tell_162 : decode cX12_tell 162 = .ok (.getfield 35, 3) := by decide +kernel
theorem dX12_tell_165 : decode cX12_tell 165 = .ok (.iload_n 3, 1) := by decide +kernel
theorem dX12_tell_166 : decode cX12_tell 166 = .ok (.aload_n 0, 1) := by decide +kernel
theorem dX12_tell_167 : decode cX12_tell 167 = .ok (.getfield 35, 3) := by decide +kernel
theorem dX12_tell_170 : decode cX12_tell 170 = .ok (.iload 4, 2) := by decide +kernel
theorem dX12_tell_172 : decode cX12_tell 172 = .ok (.iaload, 1) := by decide +kernel
theorem dX12_tell_173 : decode cX12_tell 173 = .ok (.iastore, 1) := by decide +kernel
theorem dX12_tell_174 : decode cX12_tell 174 = .ok (.iinc 2 1, 3) := by decide +kernel
theorem dX12_tell_177 : decode cX12_tell 177 = .ok (.goto (-104), 3) := by decide +kernel
theorem dX12_tell_180 : decode cX12_tell 180 = .ok (.aload_n 0, 1) := by decide +kernel
theorem dX12_tell_181 : decode cX12_tell 181 = .ok (.getfield 17, 3) := by decide +kernel
theorem dX12_tell_184 : decode cX12_tell 184 = .ok (.iload_n 1, 1) := by decide +kernel
theorem dX12_tell_185 : decode cX12_tell 185 = .ok (.iaload, 1) := by decide +kernel
theorem dX12_tell_186 : decode cX12_tell 186 = .ok (.ireturn, 1) := by decide +kernel
theorem dX12_fault_0 : decode cX12_fault 0 = .ok (.aload_n 0, 1) := by decide +kernel
theorem dX12_fault_1 : decode cX12_fault 1 = .ok (.iconst 0, 1) := by decide +kernel
theorem dX12_fault_2 : decode cX12_fault 2 = .ok (.putfield 70, 3) := by decide +kernel
theorem dX12_fault_5 : decode cX12_fault 5 = .ok (.aload_n 0, 1) := by decide +kernel
theorem dX12_fault_6 : decode cX12_fault 6 = .ok (.getfield 144, 3) := by decide +kernel
theorem dX12_fault_9 : decode cX12_fault 9 = .ok (.ireturn, 1) := by decide +kernel
theorem dX12_hear_0 : decode cX12_hear 0 = .ok (.aload_n 0, 1) := by decide +kernel
theorem dX12_hear_1 : decode cX12_hear 1 = .ok (.iconst 0, 1) := by decide +kernel
theorem dX12_hear_2 : decode cX12_hear 2 = .ok (.putfield 70, 3) := by decide +kernel
theorem dX12_hear_5 : decode cX12_hear 5 = .ok (.iload_n 1, 1) := by decide +kernel
theorem dX12_hear_6 : decode cX12_hear 6 = .ok (.ifCond .lt 9, 3) := by decide +kernel
theorem dX12_hear_9 : decode cX12_hear 9 = .ok (.iload_n 1, 1) := by decide +kernel
theorem dX12_hear_10 : decode cX12_hear 10 = .ok (.bipush 63, 2) := by decide +kernel
theorem dX12_hear_12 : decode cX12_hear 12 = .ok (.if_icmp .le 5, 3) := by decide +kernel
theorem dX12_hear_15 : decode cX12_hear 15 = .ok (.iconst 0, 1) := by decide +kernel
theorem dX12_hear_16 : decode cX12_hear 16 = .ok (.ireturn, 1) := by decide +kernel
theorem dX12_hear_17 : decode cX12_hear 17 = .ok (.aload_n 0, 1) := by decide +kernel
theorem dX12_hear_18 : decode cX12_hear 18 = .ok (.iload_n 1, 1) := by decide +kernel
theorem dX12_hear_19 : decode cX12_hear 19 = .ok (.putfield 38, 3) := by decide +kernel
theorem dX12_hear_22 : decode cX12_hear 22 = .ok (.iconst 1, 1) := by decide +kernel
theorem dX12_hear_23 : decode cX12_hear 23 = .ok (.ireturn, 1) := by decide +kernel
theorem dX12_isSaying_0 : decode cX12_isSaying 0 = .ok (.iload_n 2, 1) := by decide +kernel
theorem dX12_isSaying_1 : decode cX12_isSaying 1 = .ok (.ifCond .lt 17, 3) := by decide +kernel
theorem dX12_isSaying_4 : decode cX12_isSaying 4 = .ok (.iload_n 2, 1) := by decide +kernel
theorem dX12_isSaying_5 : decode cX12_isSaying 5 = .ok (.aload_n 0, 1) := by decide +kernel
theorem dX12_isSaying_6 : decode cX12_isSaying 6 = .ok (.getfield 17, 3) := by decide +kernel
theorem dX12_isSaying_9 : decode cX12_isSaying 9 = .ok (.iload_n 1, 1) := by decide +kernel
theorem dX12_isSaying_10 : decode cX12_isSaying 10 = .ok (.iaload, 1) := by decide +kernel
theorem dX12_isSaying_11 : decode cX12_isSaying 11 = .ok (.if_icmp .ge 7, 3) := by decide +kernel
theorem dX12_isSaying_14 : decode cX12_isSaying 14 = .ok (.iconst 1, 1) := by decide +kernel
theorem dX12_isSaying_15 : decode cX12_isSaying 15 = .ok (.goto 4, 3) := by decide +kernel
theorem dX12_isSaying_18 : decode cX12_isSaying 18 = .ok (.iconst 0, 1) := by decide +kernel
theorem dX12_isSaying_19 : decode cX12_isSaying 19 = .ok (.ireturn, 1) := by decide +kernel
set_option maxRecDepth 20000 in
theorem ggX12_saying_X12_isTeller : GoodIn wsX12_saying wsX12_isTeller := goodIn_r _ [11] rfl (by decide +kernel)
set_option maxRecDepth 20000 in
theorem gX12_saying_X12_isTeller : GoodIn wsX12_saying (va_wsS RX12 187 yX12_isTeller wsX12_isTeller) := goodIn_app (goodIn_of _ (by decide +kernel)) ggX12_saying_X12_isTeller
set_option maxRecDepth 20000 in
theorem ggX12_saying_X12_refuse : GoodIn wsX12_saying wsX12_refuse := goodIn_r _ [15, 1, 21, 22, 23, 24, 25, 26, 27, 28, 29, 30, 31, 32, 33, 34, 35, 36, 37, 38, 39, 40, 41, 42, 43, 44, 45, 46, 47, 48, 49, 50, 51, 52, 53] rfl (by decide +kernel)
set_option maxRecDepth 20000 in
theorem gX12_saying_X12_refuse : GoodIn wsX12_saying (wsV RX12 190 RX12 yX12_refuse wsX12_refuse) := goodIn_app (goodIn_of _ (by decide +kernel)) ggX12_saying_X12_refuse
set_option maxRecDepth 20000 in
theorem ggX12_saying_X12_isSaying : GoodIn wsX12_saying wsX12_isSaying := goodIn_r _ [19, 20, 21, 22, 23, 24, 25, 26, 27, 28, 29, 30, 31, 32, 33, 34, 35, 36, 37, 38, 39, 40, 41, 42, 43, 44, 45, 46, 47, 48, 49, 50, 51, 52, 53] rfl (by decide +kernel)
set_option maxRecDepth 20000 in
theorem gX12_saying_X12_isSaying : GoodIn wsX12_saying (wsV RX12 196 RX12 yX12_isSaying wsX12_isSaying) := goodIn_app (goodIn_of _ (by decide +kernel)) ggX12_saying_X12_isSaying
theorem dX12_saying_0 : decode cX12_saying 0 = .ok (.iload_n 1, 1) := by decide +kernel
theorem dX12_saying_1 : decode cX12_saying 1 = .ok (.invokestatic 187, 3) := by decide +kernel
theorem dX12_saying_4 : decode cX12_saying 4 = .ok (.ifCond .ne 9, 3) := by decide +kernel
theorem dX12_saying_7 : decode cX12_saying 7 = .ok (.aload_n 0, 1) := by decide +kernel
theorem dX12_saying_8 : decode cX12_saying 8 = .ok (.iconst 1, 1) := by decide +kernel
theorem dX12_saying_9 : decode cX12_saying 9 = .ok (.invokevirtual 190, 3) := by decide +kernel
theorem dX12_saying_12 : decode cX12_saying 12 = .ok (.ireturn, 1) := by decide +kernel
theorem dX12_saying_13 : decode cX12_saying 13 = .ok (.aload_n 0, 1) := by decide +kernel
theorem dX12_saying_14 : decode cX12_saying 14 = .ok (.iload_n 1, 1) := by decide +kernel
theorem dX12_saying_15 : decode cX12_saying 15 = .ok (.iload_n 2, 1) := by decide +kernel
theorem dX12_saying_16 : decode cX12_saying 16 = .ok (.invokevirtual 196, 3) := by decide +kernel
theorem dX12_saying_19 : decode cX12_saying 19 = .ok (.ifCond .eq 12, 3) := by decide +kernel
theorem dX12_saying_22 : decode cX12_saying 22 = .ok (.iload_n 3, 1) := by decide +kernel
theorem dX12_saying_23 : decode cX12_saying 23 = .ok (.ifCond .lt 8, 3) := by decide +kernel
theorem dX12_saying_26 : decode cX12_saying 26 = .ok (.iload_n 3, 1) := by decide +kernel
theorem dX12_saying_27 : decode cX12_saying 27 = .ok (.iconst 5, 1) := by decide +kernel
theorem dX12_saying_28 : decode cX12_saying 28 = .ok (.if_icmp .le 9, 3) := by decide +kernel
theorem dX12_saying_31 : decode cX12_saying 31 = .ok (.aload_n 0, 1) := by decide +kernel
theorem dX12_saying_32 : decode cX12_saying 32 = .ok (.iconst 2, 1) := by decide +kernel
theorem dX12_saying_33 : decode cX12_saying 33 = .ok (.invokevirtual 190, 3) := by decide +kernel
theorem dX12_saying_36 : decode cX12_saying 36 = .ok (.ireturn, 1) := by decide +kernel
theorem dX12_saying_37 : decode cX12_saying 37 = .ok (.aload_n 0, 1) := by decide +kernel
theorem dX12_saying_38 : decode cX12_saying 38 = .ok (.iconst 0, 1) := by decide +kernel
theorem dX12_saying_39 : decode cX12_saying 39 = .ok (.putfield 70, 3) := by decide +kernel
theorem dX12_saying_42 : decode cX12_saying 42 = .ok (.bipush 12, 2) := by decide +kernel
theorem dX12_saying_44 : decode cX12_saying 44 = .ok (.iload_n 1, 1) := by decide +kernel
theorem dX12_saying_45 : decode cX12_saying 45 = .ok (.imul, 1) := by decide +kernel
theorem dX12_saying_46 : decode cX12_saying 46 = .ok (.iload_n 2, 1) := by decide +kernel
theorem dX12_saying_47 : decode cX12_saying 47 = .ok (.iadd, 1) := by decide +kernel
theorem dX12_saying_48 : decode cX12_saying 48 = .ok (.istore 4, 2) := by decide +kernel
theorem dX12_saying_50 : decode cX12_saying 50 = .ok (.iload_n 3, 1) := by decide +kernel
theorem dX12_saying_51 : decode cX12_saying 51 = .ok (.tableswitch 73 0 4 #[33, 41, 49, 57, 65], 33) := by decide +kernel
theorem dX12_saying_84 : decode cX12_saying 84 = .ok (.aload_n 0, 1) := by decide +kernel
theorem dX12_saying_85 : decode cX12_saying 85 = .ok (.getfield 20, 3) := by decide +kernel
theorem dX12_saying_88 : decode cX12_saying 88 = .ok (.iload 4, 2) := by decide +kernel
theorem dX12_saying_90 : decode cX12_saying 90 = .ok (.iaload, 1) := by decide +kernel
theorem dX12_saying_91 : decode cX12_saying 91 = .ok (.ireturn, 1) := by decide +kernel
theorem dX12_saying_92 : decode cX12_saying 92 = .ok (.aload_n 0, 1) := by decide +kernel
theorem dX12_saying_93 : decode cX12_saying 93 = .ok (.getfield 23, 3) := by decide +kernel
theorem dX12_saying_96 : decode cX12_saying 96 = .ok (.iload 4, 2) := by decide +kernel
theorem dX12_saying_98 : decode cX12_saying 98 = .ok (.iaload, 1) := by decide +kernel
theorem dX12_saying_99 : decode cX12_saying 99 = .ok (.ireturn, 1) := by decide +kernel
theorem dX12_saying_100 : decode cX12_saying 100 = .ok (.aload_n 0, 1) := by decide +kernel
theorem dX12_saying_101 : decode cX12_saying 101 = .ok (.getfield 26, 3) := by decide +kernel
theorem dX12_saying_104 : decode cX12_saying 104 = .ok (.iload 4, 2) := by decide +kernel
theorem dX12_saying_106 : decode cX12_saying 106 = .ok (.iaload, 1) := by decide +kernel
theorem dX12_saying_107 : decode cX12_saying 107 = .ok (.ireturn, 1) := by decide +kernel
theorem dX12_saying_108 : decode cX12_saying 108 = .ok (.aload_n 0, 1) := by decide +kernel
theorem dX12_saying_109 : decode cX12_saying 109 = .ok (.getfield 29, 3) := by decide +kernel
theorem dX12_saying_112 : decode cX12_saying 112 = .ok (.iload 4, 2) := by decide +kernel
theorem dX12_saying_114 : decode cX12_saying 114 = .ok (.iaload, 1) := by decide +kernel
theorem dX12_saying_115 : decode cX12_saying 115 = .ok (.ireturn, 1) := by decide +kernel
theorem dX12_saying_116 : decode cX12_saying 116 = .ok (.aload_n 0, 1) := by decide +kernel
theorem dX12_saying_117 : decode cX12_saying 117 = .ok (.getfield 32, 3) := by decide +kernel
theorem dX12_saying_120 : decode cX12_saying 120 = .ok (.iload 4, 2) := by decide +kernel
theorem dX12_saying_122 : decode cX12_saying 122 = .ok (.iaload, 1) := by decide +kernel
theorem dX12_saying_123 : decode cX12_saying 123 = .ok (.ireturn, 1) := by decide +kernel
theorem dX12_saying_124 : decode cX12_saying 124 = .ok (.aload_n 0, 1) := by decide +kernel
theorem dX12_saying_125 : decode cX12_saying 125 = .ok (.getfield 35, 3) := by decide +kernel
theorem dX12_saying_128 : decode cX12_saying 128 = .ok (.iload 4, 2) := by decide +kernel
theorem dX12_saying_130 : decode cX12_saying 130 = .ok (.iaload, 1) := by decide +kernel
theorem dX12_saying_131 : decode cX12_saying 131 = .ok (.ireturn, 1) := by decide +kernel
set_option maxRecDepth 20000 in
theorem ggX12_happening_X12_blanks : GoodIn wsX12_happening wsX12_blanks := goodIn_r _ [14, 4, 3, 6, 45, 46, 47, 48, 49, 50, 51, 52, 53, 54, 55, 56, 57, 58, 59, 60, 61, 62, 63, 64, 65, 66, 67, 68, 69, 70, 71, 72, 73, 74, 75, 76, 77] rfl (by decide +kernel)
set_option maxRecDepth 20000 in
theorem gX12_happening_X12_blanks : GoodIn wsX12_happening (wsV RX12 86 RX12 yX12_blanks wsX12_blanks) := goodIn_app (goodIn_of _ (by decide +kernel)) ggX12_happening_X12_blanks
set_option maxRecDepth 20000 in
theorem ggX12_happening_X12_isLetter : GoodIn wsX12_happening wsX12_isLetter := goodIn_r _ [17] rfl (by decide +kernel)
set_option maxRecDepth 20000 in
theorem gX12_happening_X12_isLetter : GoodIn wsX12_happening (va_wsS RX12 95 yX12_isLetter wsX12_isLetter) := goodIn_app (goodIn_of _ (by decide +kernel)) ggX12_happening_X12_isLetter
set_option maxRecDepth 20000 in
theorem ggX12_happening_X12_readWord : GoodIn wsX12_happening wsX12_readWord := goodIn_r _ [21, 6, 4, 7, 22, 3, 5, 23, 24, 25, 15, 16, 13, 17, 26, 27, 28, 29, 30, 31, 32, 45, 46, 47, 48, 49, 50, 51, 52, 53, 54, 55, 56, 57, 58, 59, 60, 61, 62, 63, 64, 65, 66, 67, 68, 69, 70, 71, 72, 73, 74, 75, 76, 77] rfl (by decide +kernel)
set_option maxRecDepth 20000 in
theorem gX12_happening_X12_readWord : GoodIn wsX12_happening (wsV RX12 102 RX12 yX12_readWord wsX12_readWord) := goodIn_app (goodIn_of _ (by decide +kernel)) ggX12_happening_X12_readWord
set_option maxRecDepth 20000 in
theorem ggX12_happening_X12_isFree : GoodIn wsX12_happening wsX12_isFree := goodIn_r _ [36, 25, 7, 37, 38, 39, 40, 41, 42, 43, 44, 45, 46, 47, 48, 49, 50, 51, 52, 53, 54, 55, 56, 57, 58, 59, 60, 61, 62, 63, 64, 65, 66, 67, 68, 69, 70, 71, 72, 73, 74, 75, 76, 77] rfl (by decide +kernel)
set_option maxRecDepth 20000 in
theorem gX12_happening_X12_isFree : GoodIn wsX12_happening (wsV RX12 150 RX12 yX12_isFree wsX12_isFree) := goodIn_app (goodIn_of _ (by decide +kernel)) ggX12_happening_X12_isFree
theorem dX12_happening_0 : decode cX12_happening 0 = .ok (.aload_n 0, 1) := by decide +kernel
theorem dX12_happening_1 : decode cX12_happening 1 = .ok (.iconst 0, 1) := by decide +kernel
theorem dX12_happening_2 : decode cX12_happening 2 = .ok (.putfield 70, 3) := by decide +kernel
theorem dX12_happening_5 : decode cX12_happening 5 = .ok (.aload_n 0, 1) := by decide +kernel
theorem dX12_happening_6 : decode cX12_happening 6 = .ok (.aload_n 0, 1) := by decide +kernel
theorem dX12_happening_7 : decode cX12_happening 7 = .ok (.getfield 73, 3) := by decide +kernel
theorem dX12_happening_10 : decode cX12_happening 10 = .ok (.putfield 83, 3) := by decide +kernel
theorem dX12_happening_13 : decode cX12_happening 13 = .ok (.aload_n 0, 1) := by decide +kernel
theorem dX12_happening_14 : decode cX12_happening 14 = .ok (.iconst 0, 1) := by decide +kernel
theorem dX12_happening_15 : decode cX12_happening 15 = .ok (.putfield 73, 3) := by decide +kernel
theorem dX12_happening_18 : decode cX12_happening 18 = .ok (.aload_n 0, 1) := by decide +kernel
theorem dX12_happening_19 : decode cX12_happening 19 = .ok (.iconst 0, 1) := by decide +kernel
theorem dX12_happening_20 : decode cX12_happening 20 = .ok (.putfield 80, 3) := by decide +kernel
theorem dX12_happening_23 : decode cX12_happening 23 = .ok (.aload_n 0, 1) := by decide +kernel
theorem dX12_happening_24 : decode cX12_happening 24 = .ok (.invokevirtual 86, 3) := by decide +kernel
theorem dX12_happening_27 : decode cX12_happening 27 = .ok (.aload_n 0, 1) := by decide +kernel
theorem dX12_happening_28 : decode cX12_happening 28 = .ok (.aload_n 0, 1) := by decide +kernel
theorem dX12_happening_29 : decode cX12_happening 29 = .ok (.getfield 80, 3) := by decide +kernel
theorem dX12_happening_32 : decode cX12_happening 32 = .ok (.putfield 89, 3) := by decide +kernel
theorem dX12_happening_35 : decode cX12_happening 35 = .ok (.aload_n 0, 1) := by decide +kernel
theorem dX12_happening_36 : decode cX12_happening 36 = .ok (.getfield 80, 3) := by decide +kernel
theorem dX12_happening_39 : decode cX12_happening 39 = .ok (.aload_n 0, 1) := by decide +kernel
theorem dX12_happening_40 : decode cX12_happening 40 = .ok (.getfield 83, 3) := by decide +kernel
theorem dX12_happening_43 : decode cX12_happening 43 = .ok (.if_icmp .ge 18, 3) := by decide +kernel
theorem dX12_happening_46 : decode cX12_happening 46 = .ok (.aload_n 0, 1) := by decide +kernel
theorem dX12_happening_47 : decode cX12_happening 47 = .ok (.getfield 7, 3) := by decide +kernel
theorem dX12_happening_50 : decode cX12_happening 50 = .ok (.aload_n 0, 1) := by decide +kernel
theorem dX12_happening_51 : decode cX12_happening 51 = .ok (.getfield 80, 3) := by decide +kernel
theorem dX12_happening_54 : decode cX12_happening 54 = .ok (.iaload, 1) := by decide +kernel
theorem dX12_happening_55 : decode cX12_happening 55 = .ok (.invokestatic 95, 3) := by decide +kernel
theorem dX12_happening_58 : decode cX12_happening 58 = .ok (.ifCond .ne 5, 3) := by decide +kernel
theorem dX12_happening_61 : decode cX12_happening 61 = .ok (.iconst (-1), 1) := by decide +kernel
theorem dX12_happening_62 : decode cX12_happening 62 = .ok (.ireturn, 1) := by decide +kernel
theorem dX12_happening_63 : decode cX12_happening 63 = .ok (.aload_n 0, 1) := by decide +kernel
theorem dX12_happening_64 : decode cX12_happening 64 = .ok (.invokevirtual 102, 3) := by decide +kernel
theorem dX12_happening_67 : decode cX12_happening 67 = .ok (.aload_n 0, 1) := by decide +kernel
theorem dX12_happening_68 : decode cX12_happening 68 = .ok (.invokevirtual 150, 3) := by decide +kernel
theorem dX12_happening_71 : decode cX12_happening 71 = .ok (.ifCond .ne 5, 3) := by decide +kernel
theorem dX12_happening_74 : decode cX12_happening 74 = .ok (.iconst (-1), 1) := by decide +kernel
theorem dX12_happening_75 : decode cX12_happening 75 = .ok (.ireturn, 1) := by decide +kernel
theorem dX12_happening_76 : decode cX12_happening 76 = .ok (.aload_n 0, 1) := by decide +kernel
theorem dX12_happening_77 : decode cX12_happening 77 = .ok (.getfield 105, 3) := by decide +kernel
theorem dX12_happening_80 : decode cX12_happening 80 = .ok (.lstore_n 1, 1) := by decide +kernel
theorem dX12_happening_81 : decode cX12_happening 81 = .ok (.aload_n 0, 1) := by decide +kernel
theorem dX12_happening_82 : decode cX12_happening 82 = .ok (.invokevirtual 86, 3) := by decide +kernel
theorem dX12_happening_85 : decode cX12_happening 85 = .ok (.aload_n 0, 1) := by decide +kernel
theorem dX12_happening_86 : decode cX12_happening 86 = .ok (.getfield 80, 3) := by decide +kernel
theorem dX12_happening_89 : decode cX12_happening 89 = .ok (.aload_n 0, 1) := by decide +kernel
theorem dX12_happening_90 : decode cX12_happening 90 = .ok (.getfield 83, 3) := by decide +kernel
theorem dX12_happening_93 : decode cX12_happening 93 = .ok (.if_icmp .ge 5, 3) := by decide +kernel
theorem dX12_happening_96 : decode cX12_happening 96 = .ok (.iconst (-1), 1) := by decide +kernel
theorem dX12_happening_97 : decode cX12_happening 97 = .ok (.ireturn, 1) := by decide +kernel
theorem dX12_happening_98 : decode cX12_happening 98 = .ok (.iconst 0, 1) := by decide +kernel
theorem dX12_happening_99 : decode cX12_happening 99 = .ok (.istore_n 3, 1) := by decide +kernel
theorem dX12_happening_100 : decode cX12_happening 100 = .ok (.iload_n 3, 1) := by decide +kernel
theorem dX12_happening_101 : decode cX12_happening 101 = .ok (.aload_n 0, 1) := by decide +kernel
theorem dX12_happening_102 : decode cX12_happening 102 = .ok (.getfield 181, 3) := by decide +kernel
theorem dX12_happening_105 : decode cX12_happening 105 = .ok (.if_icmp .ge 22, 3) := by decide +kernel
theorem dX12_happening_108 : decode cX12_happening 108 = .ok (.aload_n 0, 1) := by decide +kernel
theorem dX12_happening_109 : decode cX12_happening 109 = .ok (.getfield 13, 3) := by decide +kernel
theorem dX12_happening_112 : decode cX12_happening 112 = .ok (.iload_n 3, 1) := by decide +kernel
theorem dX12_happening_113 : decode cX12_happening 113 = .ok (.laload, 1) := by decide +kernel
theorem dX12_happening_114 : decode cX12_happening 114 = .ok (.lload_n 1, 1) := by decide +kernel
theorem dX12_happening_115 : decode cX12_happening 115 = .ok (.lcmp, 1) := by decide +kernel
theorem dX12_happening_116 : decode cX12_happening 116 = .ok (.ifCond .ne 5, 3) := by decide +kernel
theorem dX12_happening_119 : decode cX12_happening 119 = .ok (.iload_n 3, 1) := by decide +kernel
theorem dX12_happening_120 : decode cX12_happening 120 = .ok (.ireturn, 1) := by decide +kernel
theorem dX12_happening_121 : decode cX12_happening 121 = .ok (.iinc 3 1, 3) := by decide +kernel
theorem dX12_happening_124 : decode cX12_happening 124 = .ok (.goto (-24), 3) := by decide +kernel
theorem dX12_happening_127 : decode cX12_happening 127 = .ok (.iconst (-1), 1) := by decide +kernel
theorem dX12_happening_128 : decode cX12_happening 128 = .ok (.ireturn, 1) := by decide +kernel
theorem dX12_name_0 : decode cX12_name 0 = .ok (.aload_n 0, 1) := by decide +kernel
theorem dX12_name_1 : decode cX12_name 1 = .ok (.iconst 0, 1) := by decide +kernel
theorem dX12_name_2 : decode cX12_name 2 = .ok (.putfield 70, 3) := by decide +kernel
theorem dX12_name_5 : decode cX12_name 5 = .ok (.iload_n 1, 1) := by decide +kernel
theorem dX12_name_6 : decode cX12_name 6 = .ok (.ifCond .lt 11, 3) := by decide +kernel
theorem dX12_name_9 : decode cX12_name 9 = .ok (.iload_n 1, 1) := by decide +kernel
theorem dX12_name_10 : decode cX12_name 10 = .ok (.aload_n 0, 1) := by decide +kernel
theorem dX12_name_11 : decode cX12_name 11 = .ok (.getfield 181, 3) := by decide +kernel
theorem dX12_name_14 : decode cX12_name 14 = .ok (.if_icmp .lt 5, 3) := by decide +kernel
theorem dX12_name_17 : decode cX12_name 17 = .ok (.iconst (-1), 1) := by decide +kernel
theorem dX12_name_18 : decode cX12_name 18 = .ok (.ireturn, 1) := by decide +kernel
theorem dX12_name_19 : decode cX12_name 19 = .ok (.aload_n 0, 1) := by decide +kernel
theorem dX12_name_20 : decode cX12_name 20 = .ok (.iconst 0, 1) := by decide +kernel
theorem dX12_name_21 : decode cX12_name 21 = .ok (.putfield 200, 3) := by decide +kernel
theorem dX12_name_24 : decode cX12_name 24 = .ok (.aload_n 0, 1) := by decide +kernel
theorem dX12_name_25 : decode cX12_name 25 = .ok (.getfield 13, 3) := by decide +kernel
theorem dX12_name_28 : decode cX12_name 28 = .ok (.iload_n 1, 1) := by decide +kernel
theorem dX12_name_29 : decode cX12_name 29 = .ok (.laload, 1) := by decide +kernel
theorem dX12_name_30 : decode cX12_name 30 = .ok (.lstore_n 2, 1) := by decide +kernel
theorem dX12_name_31 : decode cX12_name 31 = .ok (.lload_n 2, 1) := by decide +kernel
theorem dX12_name_32 : decode cX12_name 32 = .ok (.lconst 0, 1) := by decide +kernel
theorem dX12_name_33 : decode cX12_name 33 = .ok (.lcmp, 1) := by decide +kernel
theorem dX12_name_34 : decode cX12_name 34 = .ok (.ifCond .le 22, 3) := by decide +kernel
theorem dX12_name_37 : decode cX12_name 37 = .ok (.aload_n 0, 1) := by decide +kernel
theorem dX12_name_38 : decode cX12_name 38 = .ok (.dup, 1) := by decide +kernel
theorem dX12_name_39 : decode cX12_name 39 = .ok (.getfield 200, 3) := by decide +kernel
theorem dX12_name_42 : decode cX12_name 42 = .ok (.iconst 1, 1) := by decide +kernel
theorem dX12_name_43 : decode cX12_name 43 = .ok (.iadd, 1) := by decide +kernel
theorem dX12_name_44 : decode cX12_name 44 = .ok (.putfield 200, 3) := by decide +kernel
theorem dX12_name_47 : decode cX12_name 47 = .ok (.lload_n 2, 1) := by decide +kernel
theorem dX12_name_48 : decode cX12_name 48 = .ok (.ldc2_w 116, 3) := by decide +kernel
theorem dX12_name_51 : decode cX12_name 51 = .ok (.ldiv, 1) := by decide +kernel
theorem dX12_name_52 : decode cX12_name 52 = .ok (.lstore_n 2, 1) := by decide +kernel
theorem dX12_name_53 : decode cX12_name 53 = .ok (.goto (-22), 3) := by decide +kernel
theorem dX12_name_56 : decode cX12_name 56 = .ok (.aload_n 0, 1) := by decide +kernel
theorem dX12_name_57 : decode cX12_name 57 = .ok (.getfield 13, 3) := by decide +kernel
theorem dX12_name_60 : decode cX12_name 60 = .ok (.iload_n 1, 1) := by decide +kernel
theorem dX12_name_61 : decode cX12_name 61 = .ok (.laload, 1) := by decide +kernel
theorem dX12_name_62 : decode cX12_name 62 = .ok (.lstore_n 2, 1) := by decide +kernel
theorem dX12_name_63 : decode cX12_name 63 = .ok (.aload_n 0, 1) := by decide +kernel
theorem dX12_name_64 : decode cX12_name 64 = .ok (.getfield 200, 3) := by decide +kernel
theorem dX12_name_67 : decode cX12_name 67 = .ok (.iconst 1, 1) := by decide +kernel
theorem dX12_name_68 : decode cX12_name 68 = .ok (.isub, 1) := by decide +kernel
theorem dX12_name_69 : decode cX12_name 69 = .ok (.istore 4, 2) := by decide +kernel
theorem dX12_name_71 : decode cX12_name 71 = .ok (.iload 4, 2) := by decide +kernel
theorem dX12_name_73 : decode cX12_name 73 = .ok (.ifCond .lt 31, 3) := by decide +kernel
theorem dX12_name_76 : decode cX12_name 76 = .ok (.aload_n 0, 1) := by decide +kernel
theorem dX12_name_77 : decode cX12_name 77 = .ok (.getfield 42, 3) := by decide +kernel
theorem dX12_name_80 : decode cX12_name 80 = .ok (.iload 4, 2) := by decide +kernel
theorem dX12_name_82 : decode cX12_name 82 = .ok (.lload_n 2, 1) := by decide +kernel
theorem dX12_name_83 : decode cX12_name 83 = .ok (.ldc2_w 116, 3) := by decide +kernel
theorem dX12_name_86 : decode cX12_name 86 = .ok (.lrem, 1) := by decide +kernel
theorem dX12_name_87 : decode cX12_name 87 = .ok (.l2i, 1) := by decide +kernel
theorem dX12_name_88 : decode cX12_name 88 = .ok (.bipush 96, 2) := by decide +kernel
theorem dX12_name_90 : decode cX12_name 90 = .ok (.iadd, 1) := by decide +kernel
theorem dX12_name_91 : decode cX12_name 91 = .ok (.iastore, 1) := by decide +kernel
theorem dX12_name_92 : decode cX12_name 92 = .ok (.lload_n 2, 1) := by decide +kernel
theorem dX12_name_93 : decode cX12_name 93 = .ok (.ldc2_w 116, 3) := by decide +kernel
theorem dX12_name_96 : decode cX12_name 96 = .ok (.ldiv, 1) := by decide +kernel
theorem dX12_name_97 : decode cX12_name 97 = .ok (.lstore_n 2, 1) := by decide +kernel
theorem dX12_name_98 : decode cX12_name 98 = .ok (.iinc 4 (-1), 3) := by decide +kernel
theorem dX12_name_101 : decode cX12_name 101 = .ok (.goto (-30), 3) := by decide +kernel
theorem dX12_name_104 : decode cX12_name 104 = .ok (.aload_n 0, 1) := by decide +kernel
theorem dX12_name_105 : decode cX12_name 105 = .ok (.getfield 200, 3) := by decide +kernel
theorem dX12_name_108 : decode cX12_name 108 = .ok (.ireturn, 1) := by decide +kernel
set_option maxRecDepth 20000 in
theorem ggX12_octet_X12_refuse : GoodIn wsX12_octet wsX12_refuse := goodIn_r _ [8, 2, 9, 10, 11, 12, 13, 14, 15, 16, 17, 18, 19, 20, 21, 22, 23, 24, 25, 26, 27, 28, 29, 30, 31, 32, 33, 34, 35, 36, 37, 38, 39, 40, 41] rfl (by decide +kernel)
set_option maxRecDepth 20000 in
theorem gX12_octet_X12_refuse : GoodIn wsX12_octet (wsV RX12 190 RX12 yX12_refuse wsX12_refuse) := goodIn_app (goodIn_of _ (by decide +kernel)) ggX12_octet_X12_refuse
theorem dX12_octet_0 : decode cX12_octet 0 = .ok (.iload_n 1, 1) := by decide +kernel
theorem dX12_octet_1 : decode cX12_octet 1 = .ok (.ifCond .lt 11, 3) := by decide +kernel
theorem dX12_octet_4 : decode cX12_octet 4 = .ok (.iload_n 1, 1) := by decide +kernel
theorem dX12_octet_5 : decode cX12_octet 5 = .ok (.aload_n 0, 1) := by decide +kernel
theorem dX12_octet_6 : decode cX12_octet 6 = .ok (.getfield 200, 3) := by decide +kernel
theorem dX12_octet_9 : decode cX12_octet 9 = .ok (.if_icmp .lt 9, 3) := by decide +kernel
theorem dX12_octet_12 : decode cX12_octet 12 = .ok (.aload_n 0, 1) := by decide +kernel
theorem dX12_octet_13 : decode cX12_octet 13 = .ok (.iconst 1, 1) := by decide +kernel
theorem dX12_octet_14 : decode cX12_octet 14 = .ok (.invokevirtual 190, 3) := by decide +kernel
theorem dX12_octet_17 : decode cX12_octet 17 = .ok (.ireturn, 1) := by decide +kernel
theorem dX12_octet_18 : decode cX12_octet 18 = .ok (.aload_n 0, 1) := by decide +kernel
theorem dX12_octet_19 : decode cX12_octet 19 = .ok (.iconst 0, 1) := by decide +kernel
theorem dX12_octet_20 : decode cX12_octet 20 = .ok (.putfield 70, 3) := by decide +kernel
theorem dX12_octet_23 : decode cX12_octet 23 = .ok (.aload_n 0, 1) := by decide +kernel
theorem dX12_octet_24 : decode cX12_octet 24 = .ok (.getfield 42, 3) := by decide +kernel
theorem dX12_octet_27 : decode cX12_octet 27 = .ok (.iload_n 1, 1) := by decide +kernel
theorem dX12_octet_28 : decode cX12_octet 28 = .ok (.iaload, 1) := by decide +kernel
theorem dX12_octet_29 : decode cX12_octet 29 = .ok (.ireturn, 1) := by decide +kernel
theorem dX12_atMost_0 : decode cX12_atMost 0 = .ok (.aload_n 0, 1) := by decide +kernel
theorem dX12_atMost_1 : decode cX12_atMost 1 = .ok (.getfield 48, 3) := by decide +kernel
theorem dX12_atMost_4 : decode cX12_atMost 4 = .ok (.aload_n 0, 1) := by decide +kernel
theorem dX12_atMost_5 : decode cX12_atMost 5 = .ok (.getfield 203, 3) := by decide +kernel
theorem dX12_atMost_8 : decode cX12_atMost 8 = .ok (.iload_n 1, 1) := by decide +kernel
theorem dX12_atMost_9 : decode cX12_atMost 9 = .ok (.iastore, 1) := by decide +kernel
theorem dX12_atMost_10 : decode cX12_atMost 10 = .ok (.aload_n 0, 1) := by decide +kernel
theorem dX12_atMost_11 : decode cX12_atMost 11 = .ok (.getfield 45, 3) := by decide +kernel
theorem dX12_atMost_14 : decode cX12_atMost 14 = .ok (.aload_n 0, 1) := by decide +kernel
theorem dX12_atMost_15 : decode cX12_atMost 15 = .ok (.getfield 203, 3) := by decide +kernel
theorem dX12_atMost_18 : decode cX12_atMost 18 = .ok (.iload_n 2, 1) := by decide +kernel
theorem dX12_atMost_19 : decode cX12_atMost 19 = .ok (.iastore, 1) := by decide +kernel
theorem dX12_atMost_20 : decode cX12_atMost 20 = .ok (.aload_n 0, 1) := by decide +kernel
theorem dX12_atMost_21 : decode cX12_atMost 21 = .ok (.getfield 51, 3) := by decide +kernel
theorem dX12_atMost_24 : decode cX12_atMost 24 = .ok (.aload_n 0, 1) := by decide +kernel
theorem dX12_atMost_25 : decode cX12_atMost 25 = .ok (.getfield 203, 3) := by decide +kernel
theorem dX12_atMost_28 : decode cX12_atMost 28 = .ok (.iload_n 3, 1) := by decide +kernel
theorem dX12_atMost_29 : decode cX12_atMost 29 = .ok (.iastore, 1) := by decide +kernel
theorem dX12_atMost_30 : decode cX12_atMost 30 = .ok (.aload_n 0, 1) := by decide +kernel
theorem dX12_atMost_31 : decode cX12_atMost 31 = .ok (.dup, 1) := by decide +kernel
theorem dX12_atMost_32 : decode cX12_atMost 32 = .ok (.getfield 203, 3) := by decide +kernel
theorem dX12_atMost_35 : decode cX12_atMost 35 = .ok (.iconst 1, 1) := by decide +kernel
theorem dX12_atMost_36 : decode cX12_atMost 36 = .ok (.iadd, 1) := by decide +kernel
theorem dX12_atMost_37 : decode cX12_atMost 37 = .ok (.putfield 203, 3) := by decide +kernel
theorem dX12_atMost_40 : decode cX12_atMost 40 = .ok (.return_, 1) := by decide +kernel
set_option maxRecDepth 20000 in
theorem ggX12_span_X12_atMost : GoodIn wsX12_span wsX12_atMost := goodIn_r _ [5, 6, 7, 8, 9, 10, 11, 12, 13, 14, 15, 16, 17, 18, 19, 20, 21, 22, 23, 24, 25, 26, 27, 28, 29, 30, 31, 32, 33, 34, 35, 36, 37, 38, 39, 40, 41, 42] rfl (by decide +kernel)
set_option maxRecDepth 20000 in
theorem gX12_span_X12_atMost : GoodIn wsX12_span (wsV RX12 206 RX12 yX12_atMost wsX12_atMost) := goodIn_app (goodIn_of _ (by decide +kernel)) ggX12_span_X12_atMost
theorem dX12_span_0 : decode cX12_span 0 = .ok (.aload_n 0, 1) := by decide +kernel
theorem dX12_span_1 : decode cX12_span 1 = .ok (.iload_n 1, 1) := by decide +kernel
theorem dX12_span_2 : decode cX12_span 2 = .ok (.iload_n 2, 1) := by decide +kernel
theorem dX12_span_3 : decode cX12_span 3 = .ok (.iload 4, 2) := by decide +kernel
theorem dX12_span_5 : decode cX12_span 5 = .ok (.invokevirtual 206, 3) := by decide +kernel
theorem dX12_span_8 : decode cX12_span 8 = .ok (.aload_n 0, 1) := by decide +kernel
theorem dX12_span_9 : decode cX12_span 9 = .ok (.iload_n 2, 1) := by decide +kernel
theorem dX12_span_10 : decode cX12_span 10 = .ok (.iload_n 1, 1) := by decide +kernel
theorem dX12_span_11 : decode cX12_span 11 = .ok (.iload_n 3, 1) := by decide +kernel
theorem dX12_span_12 : decode cX12_span 12 = .ok (.ineg, 1) := by decide +kernel
theorem dX12_span_13 : decode cX12_span 13 = .ok (.invokevirtual 206, 3) := by decide +kernel
theorem dX12_span_16 : decode cX12_span 16 = .ok (.return_, 1) := by decide +kernel
set_option maxRecDepth 20000 in
theorem ggX12_say_X12_span : GoodIn wsX12_say wsX12_span := goodIn_r _ [10, 11, 12, 13, 9, 14, 15, 16, 17, 18, 19, 20, 21, 22, 23, 24, 25, 26, 27, 28, 29, 30, 31, 32, 33, 34, 35, 36, 37, 38, 39, 40, 41, 42, 43, 44, 45, 46, 47, 48, 49, 50, 51] rfl (by decide +kernel)
set_option maxRecDepth 20000 in
theorem gX12_say_X12_span : GoodIn wsX12_say (wsV RX12 210 RX12 yX12_span wsX12_span) := goodIn_app (goodIn_of _ (by decide +kernel)) ggX12_say_X12_span
set_option maxRecDepth 20000 in
theorem ggX12_say_X12_atMost : GoodIn wsX12_say wsX12_atMost := goodIn_r _ [14, 15, 16, 17, 18, 19, 20, 21, 22, 23, 24, 25, 26, 27, 28, 29, 30, 31, 32, 33, 34, 35, 36, 37, 38, 39, 40, 41, 42, 43, 44, 45, 46, 47, 48, 49, 50, 51] rfl (by decide +kernel)
set_option maxRecDepth 20000 in
theorem gX12_say_X12_atMost : GoodIn wsX12_say (wsV RX12 206 RX12 yX12_atMost wsX12_atMost) := goodIn_app (goodIn_of _ (by decide +kernel)) ggX12_say_X12_atMost
theorem dX12_say_0 : decode cX12_say 0 = .ok (.iconst 1, 1) := by decide +kernel
theorem dX12_say_1 : decode cX12_say 1 = .ok (.iconst 2, 1) := by decide +kernel
theorem dX12_say_2 : decode cX12_say 2 = .ok (.aload_n 0, 1) := by decide +kernel
theorem dX12_say_3 : decode cX12_say 3 = .ok (.getfield 23, 3) := by decide +kernel
theorem dX12_say_6 : decode cX12_say 6 = .ok (.iload_n 1, 1) := by decide +kernel
theorem dX12_say_7 : decode cX12_say 7 = .ok (.iaload, 1) := by decide +kernel
theorem dX12_say_8 : decode cX12_say 8 = .ok (.imul, 1) := by decide +kernel
theorem dX12_say_9 : decode cX12_say 9 = .ok (.iadd, 1) := by decide +kernel
theorem dX12_say_10 : decode cX12_say 10 = .ok (.istore_n 2, 1) := by decide +kernel
theorem dX12_say_11 : decode cX12_say 11 = .ok (.iload_n 2, 1) := by decide +kernel
theorem dX12_say_12 : decode cX12_say 12 = .ok (.iconst 1, 1) := by decide +kernel
theorem dX12_say_13 : decode cX12_say 13 = .ok (.iadd, 1) := by decide +kernel
theorem dX12_say_14 : decode cX12_say 14 = .ok (.istore_n 3, 1) := by decide +kernel
theorem dX12_say_15 : decode cX12_say 15 = .ok (.iconst 1, 1) := by decide +kernel
theorem dX12_say_16 : decode cX12_say 16 = .ok (.iconst 2, 1) := by decide +kernel
theorem dX12_say_17 : decode cX12_say 17 = .ok (.aload_n 0, 1) := by decide +kernel
theorem dX12_say_18 : decode cX12_say 18 = .ok (.getfield 26, 3) := by decide +kernel
theorem dX12_say_21 : decode cX12_say 21 = .ok (.iload_n 1, 1) := by decide +kernel
theorem dX12_say_22 : decode cX12_say 22 = .ok (.iaload, 1) := by decide +kernel
theorem dX12_say_23 : decode cX12_say 23 = .ok (.imul, 1) := by decide +kernel
theorem dX12_say_24 : decode cX12_say 24 = .ok (.iadd, 1) := by decide +kernel
theorem dX12_say_25 : decode cX12_say 25 = .ok (.istore 4, 2) := by decide +kernel
theorem dX12_say_27 : decode cX12_say 27 = .ok (.aload_n 0, 1) := by decide +kernel
theorem dX12_say_28 : decode cX12_say 28 = .ok (.getfield 20, 3) := by decide +kernel
theorem dX12_say_31 : decode cX12_say 31 = .ok (.iload_n 1, 1) := by decide +kernel
theorem dX12_say_32 : decode cX12_say 32 = .ok (.iaload, 1) := by decide +kernel
theorem dX12_say_33 : decode cX12_say 33 = .ok (.tableswitch 250 0 5 #[39, 78, 117, 132, 148, 188], 39) := by decide +kernel
theorem dX12_say_72 : decode cX12_say 72 = .ok (.aload_n 0, 1) := by decide +kernel
theorem dX12_say_73 : decode cX12_say 73 = .ok (.iconst 0, 1) := by decide +kernel
theorem dX12_say_74 : decode cX12_say 74 = .ok (.iload_n 2, 1) := by decide +kernel
theorem dX12_say_75 : decode cX12_say 75 = .ok (.aload_n 0, 1) := by decide +kernel
theorem dX12_say_76 : decode cX12_say 76 = .ok (.getfield 29, 3) := by decide +kernel
theorem dX12_say_79 : decode cX12_say 79 = .ok (.iload_n 1, 1) := by decide +kernel
theorem dX12_say_80 : decode cX12_say 80 = .ok (.iaload, 1) := by decide +kernel
theorem dX12_say_81 : decode cX12_say 81 = .ok (.aload_n 0, 1) := by decide +kernel
theorem dX12_say_82 : decode cX12_say 82 = .ok (.getfield 29, 3) := by decide +kernel
theorem dX12_say_85 : decode cX12_say 85 = .ok (.iload_n 1, 1) := by decide +kernel
theorem dX12_say_86 : decode cX12_say 86 = .ok (.iaload, 1) := by decide +kernel
theorem dX12_say_87 : decode cX12_say 87 = .ok (.invokevirtual 210, 3) := by decide +kernel
theorem dX12_say_90 : decode cX12_say 90 = .ok (.aload_n 0, 1) := by decide +kernel
theorem dX12_say_91 : decode cX12_say 91 = .ok (.iconst 0, 1) := by decide +kernel
theorem dX12_say_92 : decode cX12_say 92 = .ok (.iload_n 3, 1) := by decide +kernel
theorem dX12_say_93 : decode cX12_say 93 = .ok (.aload_n 0, 1) := by decide +kernel
theorem dX12_say_94 : decode cX12_say 94 = .ok (.getfield 29, 3) := by decide +kernel
theorem dX12_say_97 : decode cX12_say 97 = .ok (.iload_n 1, 1) := by decide +kernel
theorem dX12_say_98 : decode cX12_say 98 = .ok (.iaload, 1) := by decide +kernel
theorem dX12_say_99 : decode cX12_say 99 = .ok (.aload_n 0, 1) := by decide +kernel
theorem dX12_say_100 : decode cX12_say 100 = .ok (.getfield 29, 3) := by decide +kernel
theorem dX12_say_103 : decode cX12_say 103 = .ok (.iload_n 1, 1) := by decide +kernel
theorem dX12_say_104 : decode cX12_say 104 = .ok (.iaload, 1) := by decide +kernel
theorem dX12_say_105 : decode cX12_say 105 = .ok (.invokevirtual 210, 3) := by decide +kernel
theorem dX12_say_108 : decode cX12_say 108 = .ok (.goto 193, 3) := by decide +kernel
theorem dX12_say_111 : decode cX12_say 111 = .ok (.aload_n 0, 1) := by decide +kernel
theorem dX12_say_112 : decode cX12_say 112 = .ok (.iconst 0, 1) := by decide +kernel
theorem dX12_say_113 : decode cX12_say 113 = .ok (.iload_n 2, 1) := by decide +kernel
theorem dX12_say_114 : decode cX12_say 114 = .ok (.aload_n 0, 1) := by decide +kernel
theorem dX12_say_115 : decode cX12_say 115 = .ok (.getfield 29, 3) := by decide +kernel
theorem dX12_say_118 : decode cX12_say 118 = .ok (.iload_n 1, 1) := by decide +kernel
theorem dX12_say_119 : decode cX12_say 119 = .ok (.iaload, 1) := by decide +kernel
theorem dX12_say_120 : decode cX12_say 120 = .ok (.aload_n 0, 1) := by decide +kernel
theorem dX12_say_121 : decode cX12_say 121 = .ok (.getfield 29, 3) := by decide +kernel
theorem dX12_say_124 : decode cX12_say 124 = .ok (.iload_n 1, 1) := by decide +kernel
theorem dX12_say_125 : decode cX12_say 125 = .ok (.iaload, 1) := by decide +kernel
theorem dX12_say_126 : decode cX12_say 126 = .ok (.invokevirtual 210, 3) := by decide +kernel
theorem dX12_say_129 : decode cX12_say 129 = .ok (.aload_n 0, 1) := by decide +kernel
theorem dX12_say_130 : decode cX12_say 130 = .ok (.iconst 0, 1) := by decide +kernel
theorem dX12_say_131 : decode cX12_say 131 = .ok (.iload_n 3, 1) := by decide +kernel
theorem dX12_say_132 : decode cX12_say 132 = .ok (.aload_n 0, 1) := by decide +kernel
theorem dX12_say_133 : decode cX12_say 133 = .ok (.getfield 32, 3) := by decide +kernel
theorem dX12_say_136 : decode cX12_say 136 = .ok (.iload_n 1, 1) := by decide +kernel
theorem dX12_say_137 : decode cX12_say 137 = .ok (.iaload, 1) := by decide +kernel
theorem dX12_say_138 : decode cX12_say 138 = .ok (.aload_n 0, 1) := by decide +kernel
theorem dX12_say_139 : decode cX12_say 139 = .ok (.getfield 32, 3) := by decide +kernel
theorem dX12_say_142 : decode cX12_say 142 = .ok (.iload_n 1, 1) := by decide +kernel
theorem dX12_say_143 : decode cX12_say 143 = .ok (.iaload, 1) := by decide +kernel
theorem dX12_say_144 : decode cX12_say 144 = .ok (.invokevirtual 210, 3) := by decide +kernel
theorem dX12_say_147 : decode cX12_say 147 = .ok (.goto 154, 3) := by decide +kernel
theorem dX12_say_150 : decode cX12_say 150 = .ok (.aload_n 0, 1) := by decide +kernel
theorem dX12_say_151 : decode cX12_say 151 = .ok (.iconst 0, 1) := by decide +kernel
theorem dX12_say_152 : decode cX12_say 152 = .ok (.iload_n 3, 1) := by decide +kernel
theorem dX12_say_153 : decode cX12_say 153 = .ok (.aload_n 0, 1) := by decide +kernel
theorem dX12_say_154 : decode cX12_say 154 = .ok (.getfield 29, 3) := by decide +kernel
theorem dX12_say_157 : decode cX12_say 157 = .ok (.iload_n 1, 1) := by decide +kernel
theorem dX12_say_158 : decode cX12_say 158 = .ok (.iaload, 1) := by decide +kernel
theorem dX12_say_159 : decode cX12_say 159 = .ok (.invokevirtual 206, 3) := by decide +kernel
theorem dX12_say_162 : decode cX12_say 162 = .ok (.goto 139, 3) := by decide +kernel
theorem dX12_say_165 : decode cX12_say 165 = .ok (.aload_n 0, 1) := by decide +kernel
theorem dX12_say_166 : decode cX12_say 166 = .ok (.iload_n 2, 1) := by decide +kernel
theorem dX12_say_167 : decode cX12_say 167 = .ok (.iconst 0, 1) := by decide +kernel
theorem dX12_say_168 : decode cX12_say 168 = .ok (.aload_n 0, 1) := by decide +kernel
theorem dX12_say_169 : decode cX12_say 169 = .ok (.getfield 29, 3) := by decide +kernel
theorem dX12_say_172 : decode cX12_say 172 = .ok (.iload_n 1, 1) := by decide +kernel
theorem dX12_say_173 : decode cX12_say 173 = .ok (.iaload, 1) := by decide +kernel
theorem dX12_say_174 : decode cX12_say 174 = .ok (.ineg, 1) := by decide +kernel
theorem dX12_say_175 : decode cX12_say 175 = .ok (.invokevirtual 206, 3) := by decide +kernel
theorem dX12_say_178 : decode cX12_say 178 = .ok (.goto 123, 3) := by decide +kernel
theorem dX12_say_181 : decode cX12_say 181 = .ok (.aload_n 0, 1) := by decide +kernel
theorem dX12_say_182 : decode cX12_say 182 = .ok (.iload_n 2, 1) := by decide +kernel
theorem dX12_say_183 : decode cX12_say 183 = .ok (.iload_n 3, 1) := by decide +kernel
theorem dX12_say_184 : decode cX12_say 184 = .ok (.aload_n 0, 1) := by decide +kernel
theorem dX12_say_185 : decode cX12_say 185 = .ok (.getfield 29, 3) := by decide +kernel
theorem dX12_say_188 : decode cX12_say 188 = .ok (.iload_n 1, 1) := by decide +kernel
theorem dX12_say_189 : decode cX12_say 189 = .ok (.iaload, 1) := by decide +kernel
theorem dX12_say_190 : decode cX12_say 190 = .ok (.aload_n 0, 1) := by decide +kernel
theorem dX12_say_191 : decode cX12_say 191 = .ok (.getfield 32, 3) := by decide +kernel
theorem dX12_say_194 : decode cX12_say 194 = .ok (.iload_n 1, 1) := by decide +kernel
theorem dX12_say_195 : decode cX12_say 195 = .ok (.iaload, 1) := by decide +kernel
theorem dX12_say_196 : decode cX12_say 196 = .ok (.iconst (-1), 1) := by decide +kernel
theorem dX12_say_197 : decode cX12_say 197 = .ok (.if_icmp .ne 12, 3) := by decide +kernel
theorem dX12_say_200 : decode cX12_say 200 = .ok (.aload_n 0, 1) := by decide +kernel
theorem dX12_say_201 : decode cX12_say 201 = .ok (.getfield 29, 3) := by decide +kernel
theorem dX12_say_204 : decode cX12_say 204 = .ok (.iload_n 1, 1) := by decide +kernel
theorem dX12_say_205 : decode cX12_say 205 = .ok (.iaload, 1) := by decide +kernel
theorem dX12_say_206 : decode cX12_say 206 = .ok (.goto 9, 3) := by decide +kernel
theorem dX12_say_209 : decode cX12_say 209 = .ok (.aload_n 0, 1) := by decide +kernel
theorem dX12_say_210 : decode cX12_say 210 = .ok (.getfield 32, 3) := by decide +kernel
theorem dX12_say_213 : decode cX12_say 213 = .ok (.iload_n 1, 1) := by decide +kernel
theorem dX12_say_214 : decode cX12_say 214 = .ok (.iaload, 1) := by decide +kernel
theorem dX12_say_215 : decode cX12_say 215 = .ok (.invokevirtual 210, 3) := by decide +kernel
theorem dX12_say_218 : decode cX12_say 218 = .ok (.goto 83, 3) := by decide +kernel
theorem dX12_say_221 : decode cX12_say 221 = .ok (.aload_n 0, 1) := by decide +kernel
theorem dX12_say_222 : decode cX12_say 222 = .ok (.getfield 29, 3) := by decide +kernel
theorem dX12_say_225 : decode cX12_say 225 = .ok (.iload_n 1, 1) := by decide +kernel
theorem dX12_say_226 : decode cX12_say 226 = .ok (.iaload, 1) := by decide +kernel
theorem dX12_say_227 : decode cX12_say 227 = .ok (.iconst (-1), 1) := by decide +kernel
theorem dX12_say_228 : decode cX12_say 228 = .ok (.if_icmp .ne 14, 3) := by decide +kernel
theorem dX12_say_231 : decode cX12_say 231 = .ok (.aload_n 0, 1) := by decide +kernel
theorem dX12_say_232 : decode cX12_say 232 = .ok (.iload 4, 2) := by decide +kernel
theorem dX12_say_234 : decode cX12_say 234 = .ok (.iload_n 3, 1) := by decide +kernel
theorem dX12_say_235 : decode cX12_say 235 = .ok (.iconst (-1), 1) := by decide +kernel
theorem dX12_say_236 : decode cX12_say 236 = .ok (.invokevirtual 206, 3) := by decide +kernel
theorem dX12_say_239 : decode cX12_say 239 = .ok (.goto 62, 3) := by decide +kernel
theorem dX12_say_242 : decode cX12_say 242 = .ok (.aload_n 0, 1) := by decide +kernel
theorem dX12_say_243 : decode cX12_say 243 = .ok (.iload_n 3, 1) := by decide +kernel
theorem dX12_say_244 : decode cX12_say 244 = .ok (.iload 4, 2) := by decide +kernel
theorem dX12_say_246 : decode cX12_say 246 = .ok (.aload_n 0, 1) := by decide +kernel
theorem dX12_say_247 : decode cX12_say 247 = .ok (.getfield 29, 3) := by decide +kernel
theorem dX12_say_250 : decode cX12_say 250 = .ok (.iload_n 1, 1) := by decide +kernel
theorem dX12_say_251 : decode cX12_say 251 = .ok (.iaload, 1) := by decide +kernel
theorem dX12_say_252 : decode cX12_say 252 = .ok (.aload_n 0, 1) := by decide +kernel
theorem dX12_say_253 : decode cX12_say 253 = .ok (.getfield 32, 3) := by decide +kernel
theorem dX12_say_256 : decode cX12_say 256 = .ok (.iload_n 1, 1) := by decide +kernel
theorem dX12_say_257 : decode cX12_say 257 = .ok (.iaload, 1) := by decide +kernel
theorem dX12_say_258 : decode cX12_say 258 = .ok (.iconst (-1), 1) := by decide +kernel
theorem dX12_say_259 : decode cX12_say 259 = .ok (.if_icmp .ne 12, 3) := by decide +kernel
theorem dX12_say_262 : decode cX12_say 262 = .ok (.aload_n 0, 1) := by decide +kernel
theorem dX12_say_263 : decode cX12_say 263 = .ok (.getfield 29, 3) := by decide +kernel
theorem dX12_say_266 : decode cX12_say 266 = .ok (.iload_n 1, 1) := by decide +kernel
theorem dX12_say_267 : decode cX12_say 267 = .ok (.iaload, 1) := by decide +kernel
theorem dX12_say_268 : decode cX12_say 268 = .ok (.goto 9, 3) := by decide +kernel
theorem dX12_say_271 : decode cX12_say 271 = .ok (.aload_n 0, 1) := by decide +kernel
theorem dX12_say_272 : decode cX12_say 272 = .ok (.getfield 32, 3) := by decide +kernel
theorem dX12_say_275 : decode cX12_say 275 = .ok (.iload_n 1, 1) := by decide +kernel
theorem dX12_say_276 : decode cX12_say 276 = .ok (.iaload, 1) := by decide +kernel
theorem dX12_say_277 : decode cX12_say 277 = .ok (.invokevirtual 210, 3) := by decide +kernel
theorem dX12_say_280 : decode cX12_say 280 = .ok (.goto 21, 3) := by decide +kernel
theorem dX12_say_283 : decode cX12_say 283 = .ok (.aload_n 0, 1) := by decide +kernel
theorem dX12_say_284 : decode cX12_say 284 = .ok (.iload_n 2, 1) := by decide +kernel
theorem dX12_say_285 : decode cX12_say 285 = .ok (.iload 4, 2) := by decide +kernel
theorem dX12_say_287 : decode cX12_say 287 = .ok (.iconst 0, 1) := by decide +kernel
theorem dX12_say_288 : decode cX12_say 288 = .ok (.invokevirtual 206, 3) := by decide +kernel
theorem dX12_say_291 : decode cX12_say 291 = .ok (.aload_n 0, 1) := by decide +kernel
theorem dX12_say_292 : decode cX12_say 292 = .ok (.iload 4, 2) := by decide +kernel
theorem dX12_say_294 : decode cX12_say 294 = .ok (.iconst 1, 1) := by decide +kernel
theorem dX12_say_295 : decode cX12_say 295 = .ok (.iadd, 1) := by decide +kernel
theorem dX12_say_296 : decode cX12_say 296 = .ok (.iload_n 3, 1) := by decide +kernel
theorem dX12_say_297 : decode cX12_say 297 = .ok (.iconst 0, 1) := by decide +kernel
theorem dX12_say_298 : decode cX12_say 298 = .ok (.invokevirtual 206, 3) := by decide +kernel
theorem dX12_say_301 : decode cX12_say 301 = .ok (.return_, 1) := by decide +kernel
set_option maxRecDepth 20000 in
theorem ggX12_gather_X12_atMost : GoodIn wsX12_gather wsX12_atMost := goodIn_r _ [9, 10, 1, 11, 12, 26, 27, 28, 29, 30, 31, 32, 33, 34, 35, 36, 37, 38, 39, 40, 41, 42, 43, 44, 45, 46, 47, 48, 49, 50, 51, 52, 53, 54, 55, 56, 57, 58] rfl (by decide +kernel)
set_option maxRecDepth 20000 in
theorem gX12_gather_X12_atMost : GoodIn wsX12_gather (wsV RX12 206 RX12 yX12_atMost wsX12_atMost) := goodIn_app (goodIn_of _ (by decide +kernel)) ggX12_gather_X12_atMost
set_option maxRecDepth 20000 in
theorem ggX12_gather_X12_say : GoodIn wsX12_gather wsX12_say := goodIn_r _ [16, 17, 18, 19, 20, 21, 22, 23, 24, 8, 25, 5, 6, 7, 9, 10, 1, 11, 12, 26, 27, 28, 29, 30, 31, 32, 33, 34, 35, 36, 37, 38, 39, 40, 41, 42, 43, 44, 45, 46, 47, 48, 49, 50, 51, 52, 53, 54, 55, 56, 57, 58] rfl (by decide +kernel)
set_option maxRecDepth 20000 in
theorem gX12_gather_X12_say : GoodIn wsX12_gather (wsV RX12 214 RX12 yX12_say wsX12_say) := goodIn_app (goodIn_of _ (by decide +kernel)) ggX12_gather_X12_say
theorem dX12_gather_0 : decode cX12_gather 0 = .ok (.aload_n 0, 1) := by decide +kernel
theorem dX12_gather_1 : decode cX12_gather 1 = .ok (.iconst 0, 1) := by decide +kernel
theorem dX12_gather_2 : decode cX12_gather 2 = .ok (.putfield 203, 3) := by decide +kernel
theorem dX12_gather_5 : decode cX12_gather 5 = .ok (.iconst 0, 1) := by decide +kernel
theorem dX12_gather_6 : decode cX12_gather 6 = .ok (.istore_n 2, 1) := by decide +kernel
theorem dX12_gather_7 : decode cX12_gather 7 = .ok (.iload_n 2, 1) := by decide +kernel
theorem dX12_gather_8 : decode cX12_gather 8 = .ok (.aload_n 0, 1) := by decide +kernel
theorem dX12_gather_9 : decode cX12_gather 9 = .ok (.getfield 181, 3) := by decide +kernel
theorem dX12_gather_12 : decode cX12_gather 12 = .ok (.if_icmp .ge 48, 3) := by decide +kernel
theorem dX12_gather_15 : decode cX12_gather 15 = .ok (.aload_n 0, 1) := by decide +kernel
theorem dX12_gather_16 : decode cX12_gather 16 = .ok (.iconst 1, 1) := by decide +kernel
theorem dX12_gather_17 : decode cX12_gather 17 = .ok (.iconst 2, 1) := by decide +kernel
theorem dX12_gather_18 : decode cX12_gather 18 = .ok (.iload_n 2, 1) := by decide +kernel
theorem dX12_gather_19 : decode cX12_gather 19 = .ok (.imul, 1) := by decide +kernel
theorem dX12_gather_20 : decode cX12_gather 20 = .ok (.iadd, 1) := by decide +kernel
theorem dX12_gather_21 : decode cX12_gather 21 = .ok (.iconst 0, 1) := by decide +kernel
theorem dX12_gather_22 : decode cX12_gather 22 = .ok (.iconst 0, 1) := by decide +kernel
theorem dX12_gather_23 : decode cX12_gather 23 = .ok (.invokevirtual 206, 3) := by decide +kernel
theorem dX12_gather_26 : decode cX12_gather 26 = .ok (.aload_n 0, 1) := by decide +kernel
theorem dX12_gather_27 : decode cX12_gather 27 = .ok (.iconst 2, 1) := by decide +kernel
theorem dX12_gather_28 : decode cX12_gather 28 = .ok (.iconst 2, 1) := by decide +kernel
theorem dX12_gather_29 : decode cX12_gather 29 = .ok (.iload_n 2, 1) := by decide +kernel
theorem dX12_gather_30 : decode cX12_gather 30 = .ok (.imul, 1) := by decide +kernel
theorem dX12_gather_31 : decode cX12_gather 31 = .ok (.iadd, 1) := by decide +kernel
theorem dX12_gather_32 : decode cX12_gather 32 = .ok (.iconst 1, 1) := by decide +kernel
theorem dX12_gather_33 : decode cX12_gather 33 = .ok (.iconst 2, 1) := by decide +kernel
theorem dX12_gather_34 : decode cX12_gather 34 = .ok (.iload_n 2, 1) := by decide +kernel
theorem dX12_gather_35 : decode cX12_gather 35 = .ok (.imul, 1) := by decide +kernel
theorem dX12_gather_36 : decode cX12_gather 36 = .ok (.iadd, 1) := by decide +kernel
theorem dX12_gather_37 : decode cX12_gather 37 = .ok (.iconst 0, 1) := by decide +kernel
theorem dX12_gather_38 : decode cX12_gather 38 = .ok (.invokevirtual 206, 3) := by decide +kernel
theorem dX12_gather_41 : decode cX12_gather 41 = .ok (.aload_n 0, 1) := by decide +kernel
theorem dX12_gather_42 : decode cX12_gather 42 = .ok (.iconst 0, 1) := by decide +kernel
theorem dX12_gather_43 : decode cX12_gather 43 = .ok (.iconst 2, 1) := by decide +kernel
theorem dX12_gather_44 : decode cX12_gather 44 = .ok (.iconst 2, 1) := by decide +kernel
theorem dX12_gather_45 : decode cX12_gather 45 = .ok (.iload_n 2, 1) := by decide +kernel
theorem dX12_gather_46 : decode cX12_gather 46 = .ok (.imul, 1) := by decide +kernel
theorem dX12_gather_47 : decode cX12_gather 47 = .ok (.iadd, 1) := by decide +kernel
theorem dX12_gather_48 : decode cX12_gather 48 = .ok (.sipush 9999, 3) := by decide +kernel
theorem dX12_gather_51 : decode cX12_gather 51 = .ok (.invokevirtual 206, 3) := by decide +kernel
theorem dX12_gather_54 : decode cX12_gather 54 = .ok (.iinc 2 1, 3) := by decide +kernel
theorem dX12_gather_57 : decode cX12_gather 57 = .ok (.goto (-50), 3) := by decide +kernel
theorem dX12_gather_60 : decode cX12_gather 60 = .ok (.iconst 0, 1) := by decide +kernel
theorem dX12_gather_61 : decode cX12_gather 61 = .ok (.istore_n 2, 1) := by decide +kernel
theorem dX12_gather_62 : decode cX12_gather 62 = .ok (.iload_n 2, 1) := by decide +kernel
theorem dX12_gather_63 : decode cX12_gather 63 = .ok (.bipush 6, 2) := by decide +kernel
theorem dX12_gather_65 : decode cX12_gather 65 = .ok (.if_icmp .ge 60, 3) := by decide +kernel
theorem dX12_gather_68 : decode cX12_gather 68 = .ok (.iconst 0, 1) := by decide +kernel
theorem dX12_gather_69 : decode cX12_gather 69 = .ok (.istore_n 3, 1) := by decide +kernel
theorem dX12_gather_70 : decode cX12_gather 70 = .ok (.iload_n 3, 1) := by decide +kernel
theorem dX12_gather_71 : decode cX12_gather 71 = .ok (.aload_n 0, 1) := by decide +kernel
theorem dX12_gather_72 : decode cX12_gather 72 = .ok (.getfield 17, 3) := by decide +kernel
theorem dX12_gather_75 : decode cX12_gather 75 = .ok (.iload_n 2, 1) := by decide +kernel
theorem dX12_gather_76 : decode cX12_gather 76 = .ok (.iaload, 1) := by decide +kernel
theorem dX12_gather_77 : decode cX12_gather 77 = .ok (.if_icmp .ge 42, 3) := by decide +kernel
theorem dX12_gather_80 : decode cX12_gather 80 = .ok (.iload_n 1, 1) := by decide +kernel
theorem dX12_gather_81 : decode cX12_gather 81 = .ok (.iload_n 2, 1) := by decide +kernel
theorem dX12_gather_82 : decode cX12_gather 82 = .ok (.ishr, 1) := by decide +kernel
theorem dX12_gather_83 : decode cX12_gather 83 = .ok (.iconst 1, 1) := by decide +kernel
theorem dX12_gather_84 : decode cX12_gather 84 = .ok (.iand, 1) := by decide +kernel
theorem dX12_gather_85 : decode cX12_gather 85 = .ok (.iconst 1, 1) := by decide +kernel
theorem dX12_gather_86 : decode cX12_gather 86 = .ok (.if_icmp .ne 27, 3) := by decide +kernel
theorem dX12_gather_89 : decode cX12_gather 89 = .ok (.aload_n 0, 1) := by decide +kernel
theorem dX12_gather_90 : decode cX12_gather 90 = .ok (.getfield 54, 3) := by decide +kernel
theorem dX12_gather_93 : decode cX12_gather 93 = .ok (.bipush 12, 2) := by decide +kernel
theorem dX12_gather_95 : decode cX12_gather 95 = .ok (.iload_n 2, 1) := by decide +kernel
theorem dX12_gather_96 : decode cX12_gather 96 = .ok (.imul, 1) := by decide +kernel
theorem dX12_gather_97 : decode cX12_gather 97 = .ok (.iload_n 3, 1) := by decide +kernel
theorem dX12_gather_98 : decode cX12_gather 98 = .ok (.iadd, 1) := by decide +kernel
theorem dX12_gather_99 : decode cX12_gather 99 = .ok (.baload, 1) := by decide +kernel
theorem dX12_gather_100 : decode cX12_gather 100 = .ok (.ifCond .ne 13, 3) := by decide +kernel
theorem dX12_gather_103 : decode cX12_gather 103 = .ok (.aload_n 0, 1) := by decide +kernel
theorem dX12_gather_104 : decode cX12_gather 104 = .ok (.bipush 12, 2) := by decide +kernel
theorem dX12_gather_106 : decode cX12_gather 106 = .ok (.iload_n 2, 1) := by decide +kernel
theorem dX12_gather_107 : decode cX12_gather 107 = .ok (.imul, 1) := by decide +kernel
theorem dX12_gather_108 : decode cX12_gather 108 = .ok (.iload_n 3, 1) := by decide +kernel
theorem dX12_gather_109 : decode cX12_gather 109 = .ok (.iadd, 1) := by decide +kernel
theorem dX12_gather_110 : decode cX12_gather 110 = .ok (.invokevirtual 214, 3) := by decide +kernel
theorem dX12_gather_113 : decode cX12_gather 113 = .ok (.iinc 3 1, 3) := by decide +kernel
theorem dX12_gather_116 : decode cX12_gather 116 = .ok (.goto (-46), 3) := by decide +kernel
theorem dX12_gather_119 : decode cX12_gather 119 = .ok (.iinc 2 1, 3) := by decide +kernel
theorem dX12_gather_122 : decode cX12_gather 122 = .ok (.goto (-60), 3) := by decide +kernel
theorem dX12_gather_125 : decode cX12_gather 125 = .ok (.return_, 1) := by decide +kernel
theorem dX12_goes_0 : decode cX12_goes 0 = .ok (.iconst 1, 1) := by decide +kernel
theorem dX12_goes_1 : decode cX12_goes 1 = .ok (.iconst 2, 1) := by decide +kernel
theorem dX12_goes_2 : decode cX12_goes 2 = .ok (.aload_n 0, 1) := by decide +kernel
theorem dX12_goes_3 : decode cX12_goes 3 = .ok (.getfield 181, 3) := by decide +kernel
theorem dX12_goes_6 : decode cX12_goes 6 = .ok (.imul, 1) := by decide +kernel
theorem dX12_goes_7 : decode cX12_goes 7 = .ok (.iadd, 1) := by decide +kernel
theorem dX12_goes_8 : decode cX12_goes 8 = .ok (.istore_n 2, 1) := by decide +kernel
theorem dX12_goes_9 : decode cX12_goes 9 = .ok (.iconst 0, 1) := by decide +kernel
theorem dX12_goes_10 : decode cX12_goes 10 = .ok (.istore_n 3, 1) := by decide +kernel
theorem dX12_goes_11 : decode cX12_goes 11 = .ok (.iload_n 3, 1) := by decide +kernel
theorem dX12_goes_12 : decode cX12_goes 12 = .ok (.iload_n 2, 1) := by decide +kernel
theorem dX12_goes_13 : decode cX12_goes 13 = .ok (.if_icmp .ge 31, 3) := by decide +kernel
theorem dX12_goes_16 : decode cX12_goes 16 = .ok (.aload_n 0, 1) := by decide +kernel
theorem dX12_goes_17 : decode cX12_goes 17 = .ok (.getfield 58, 3) := by decide +kernel
theorem dX12_goes_20 : decode cX12_goes 20 = .ok (.iload_n 3, 1) := by decide +kernel
theorem dX12_goes_21 : decode cX12_goes 21 = .ok (.iload_n 1, 1) := by decide +kernel
theorem dX12_goes_22 : decode cX12_goes 22 = .ok (.iconst (-1), 1) := by decide +kernel
theorem dX12_goes_23 : decode cX12_goes 23 = .ok (.if_icmp .eq 8, 3) := by decide +kernel
theorem dX12_goes_26 : decode cX12_goes 26 = .ok (.iload_n 3, 1) := by decide +kernel
theorem dX12_goes_27 : decode cX12_goes 27 = .ok (.iload_n 1, 1) := by decide +kernel
theorem dX12_goes_28 : decode cX12_goes 28 = .ok (.if_icmp .ne 7, 3) := by decide +kernel
theorem dX12_goes_31 : decode cX12_goes 31 = .ok (.iconst 0, 1) := by decide +kernel
theorem dX12_goes_32 : decode cX12_goes 32 = .ok (.goto 5, 3) := by decide +kernel
theorem dX12_goes_35 : decode cX12_goes 35 = .ok (.ldc 217, 2) := by decide +kernel
theorem dX12_goes_37 : decode cX12_goes 37 = .ok (.iastore, 1) := by decide +kernel
theorem dX12_goes_38 : decode cX12_goes 38 = .ok (.iinc 3 1, 3) := by decide +kernel
theorem dX12_goes_41 : decode cX12_goes 41 = .ok (.goto (-30), 3) := by decide +kernel
theorem dX12_goes_44 : decode cX12_goes 44 = .ok (.iconst 0, 1) := by decide +kernel
theorem dX12_goes_45 : decode cX12_goes 45 = .ok (.istore_n 3, 1) := by decide +kernel
theorem dX12_goes_46 : decode cX12_goes 46 = .ok (.iload_n 3, 1) := by decide +kernel
theorem dX12_goes_47 : decode cX12_goes 47 = .ok (.iload_n 2, 1) := by decide +kernel
theorem dX12_goes_48 : decode cX12_goes 48 = .ok (.if_icmp .gt 127, 3) := by decide +kernel
theorem dX12_goes_51 : decode cX12_goes 51 = .ok (.iconst 0, 1) := by decide +kernel
theorem dX12_goes_52 : decode cX12_goes 52 = .ok (.istore 4, 2) := by decide +kernel
theorem dX12_goes_54 : decode cX12_goes 54 = .ok (.iconst 0, 1) := by decide +kernel
theorem dX12_goes_55 : decode cX12_goes 55 = .ok (.istore 5, 2) := by decide +kernel
theorem dX12_goes_57 : decode cX12_goes 57 = .ok (.iload 5, 2) := by decide +kernel
theorem dX12_goes_59 : decode cX12_goes 59 = .ok (.aload_n 0, 1) := by decide +kernel
theorem dX12_goes_60 : decode cX12_goes 60 = .ok (.getfield 203, 3) := by decide +kernel
theorem dX12_goes_63 : decode cX12_goes 63 = .ok (.if_icmp .ge 99, 3) := by decide +kernel
theorem dX12_goes_66 : decode cX12_goes 66 = .ok (.aload_n 0, 1) := by decide +kernel
theorem dX12_goes_67 : decode cX12_goes 67 = .ok (.getfield 58, 3) := by decide +kernel
theorem dX12_goes_70 : decode cX12_goes 70 = .ok (.aload_n 0, 1) := by decide +kernel
theorem dX12_goes_71 : decode cX12_goes 71 = .ok (.getfield 48, 3) := by decide +kernel
theorem dX12_goes_74 : decode cX12_goes 74 = .ok (.iload 5, 2) := by decide +kernel
theorem dX12_goes_76 : decode cX12_goes 76 = .ok (.iaload, 1) := by decide +kernel
theorem dX12_goes_77 : decode cX12_goes 77 = .ok (.iaload, 1) := by decide +kernel
theorem dX12_goes_78 : decode cX12_goes 78 = .ok (.ldc 217, 2) := by decide +kernel
theorem dX12_goes_80 : decode cX12_goes 80 = .ok (.if_icmp .eq 76, 3) := by decide +kernel
theorem dX12_goes_83 : decode cX12_goes 83 = .ok (.aload_n 0, 1) := by decide +kernel
theorem dX12_goes_84 : decode cX12_goes 84 = .ok (.getfield 58, 3) := by decide +kernel
theorem dX12_goes_87 : decode cX12_goes 87 = .ok (.aload_n 0, 1) := by decide +kernel
theorem dX12_goes_88 : decode cX12_goes 88 = .ok (.getfield 48, 3) := by decide +kernel
theorem dX12_goes_91 : decode cX12_goes 91 = .ok (.iload 5, 2) := by decide +kernel
theorem dX12_goes_93 : decode cX12_goes 93 = .ok (.iaload, 1) := by decide +kernel
theorem dX12_goes_94 : decode cX12_goes 94 = .ok (.iaload, 1) := by decide +kernel
theorem dX12_goes_95 : decode cX12_goes 95 = .ok (.aload_n 0, 1) := by decide +kernel
theorem dX12_goes_96 : decode cX12_goes 96 = .ok (.getfield 51, 3) := by decide +kernel
theorem dX12_goes_99 : decode cX12_goes 99 = .ok (.iload 5, 2) := by decide +kernel
theorem dX12_goes_101 : decode cX12_goes 101 = .ok (.iaload, 1) := by decide +kernel
theorem dX12_goes_102 : decode cX12_goes 102 = .ok (.iadd, 1) := by decide +kernel
theorem dX12_goes_103 : decode cX12_goes 103 = .ok (.aload_n 0, 1) := by decide +kernel
theorem dX12_goes_104 : decode cX12_goes 104 = .ok (.getfield 58, 3) := by decide +kernel
theorem dX12_goes_107 : decode cX12_goes 107 = .ok (.aload_n 0, 1) := by decide +kernel
theorem dX12_goes_108 : decode cX12_goes 108 = .ok (.getfield 45, 3) := by decide +kernel
theorem dX12_goes_111 : decode cX12_goes 111 = .ok (.iload 5, 2) := by decide +kernel
theorem dX12_goes_113 : decode cX12_goes 113 = .ok (.iaload, 1) := by decide +kernel
theorem dX12_goes_114 : decode cX12_goes 114 = .ok (.iaload, 1) := by decide +kernel
theorem dX12_goes_115 : decode cX12_goes 115 = .ok (.if_icmp .lt 6, 3) := by decide +kernel
theorem dX12_goes_118 : decode cX12_goes 118 = .ok (.goto 38, 3) := by decide +kernel
theorem dX12_goes_121 : decode cX12_goes 121 = .ok (.aload_n 0, 1) := by decide +kernel
theorem dX12_goes_122 : decode cX12_goes 122 = .ok (.getfield 58, 3) := by decide +kernel
theorem dX12_goes_125 : decode cX12_goes 125 = .ok (.aload_n 0, 1) := by decide +kernel
theorem dX12_goes_126 : decode cX12_goes 126 = .ok (.getfield 45, 3) := by decide +kernel
theorem dX12_goes_129 : decode cX12_goes 129 = .ok (.iload 5, 2) := by decide +kernel
theorem dX12_goes_131 : decode cX12_goes 131 = .ok (.iaload, 1) := by decide +kernel
theorem dX12_goes_132 : decode cX12_goes 132 = .ok (.aload_n 0, 1) := by decide +kernel
theorem dX12_goes_133 : decode cX12_goes 133 = .ok (.getfield 58, 3) := by decide +kernel
theorem dX12_goes_136 : decode cX12_goes 136 = .ok (.aload_n 0, 1) := by decide +kernel
theorem dX12_goes_137 : decode cX12_goes 137 = .ok (.getfield 48, 3) := by decide +kernel
theorem dX12_goes_140 : decode cX12_goes 140 = .ok (.iload 5, 2) := by decide +kernel
theorem dX12_goes_142 : decode cX12_goes 142 = .ok (.iaload, 1) := by decide +kernel
theorem dX12_goes_143 : decode cX12_goes 143 = .ok (.iaload, 1) := by decide +kernel
theorem dX12_goes_144 : decode cX12_goes 144 = .ok (.aload_n 0, 1) := by decide +kernel
theorem dX12_goes_145 : decode cX12_goes 145 = .ok (.getfield 51, 3) := by decide +kernel
theorem dX12_goes_148 : decode cX12_goes 148 = .ok (.iload 5, 2) := by decide +kernel
theorem dX12_goes_150 : decode cX12_goes 150 = .ok (.iaload, 1) := by decide +kernel
theorem dX12_goes_151 : decode cX12_goes 151 = .ok (.iadd, 1) := by decide +kernel
theorem dX12_goes_152 : decode cX12_goes 152 = .ok (.iastore, 1) := by decide +kernel
theorem dX12_goes_153 : decode cX12_goes 153 = .ok (.iconst 1, 1) := by decide +kernel
theorem dX12_goes_154 : decode cX12_goes 154 = .ok (.istore 4, 2) := by decide +kernel
theorem dX12_goes_156 : decode cX12_goes 156 = .ok (.iinc 5 1, 3) := by decide +kernel
theorem dX12_goes_159 : decode cX12_goes 159 = .ok (.goto (-102), 3) := by decide +kernel
theorem dX12_goes_162 : decode cX12_goes 162 = .ok (.iload 4, 2) := by decide +kernel
theorem dX12_goes_164 : decode cX12_goes 164 = .ok (.ifCond .ne 5, 3) := by decide +kernel
theorem dX12_goes_167 : decode cX12_goes 167 = .ok (.iconst 1, 1) := by decide +kernel
theorem dX12_goes_168 : decode cX12_goes 168 = .ok (.ireturn, 1) := by decide +kernel
theorem dX12_goes_169 : decode cX12_goes 169 = .ok (.iinc 3 1, 3) := by decide +kernel
theorem dX12_goes_172 : decode cX12_goes 172 = .ok (.goto (-126), 3) := by decide +kernel
theorem dX12_goes_175 : decode cX12_goes 175 = .ok (.iconst 0, 1) := by decide +kernel
theorem dX12_goes_176 : decode cX12_goes 176 = .ok (.ireturn, 1) := by decide +kernel
theorem dX12_hearAll_0 : decode cX12_hearAll 0 = .ok (.iconst 0, 1) := by decide +kernel
theorem dX12_hearAll_1 : decode cX12_hearAll 1 = .ok (.istore_n 1, 1) := by decide +kernel
theorem dX12_hearAll_2 : decode cX12_hearAll 2 = .ok (.iload_n 1, 1) := by decide +kernel
theorem dX12_hearAll_3 : decode cX12_hearAll 3 = .ok (.bipush 84, 2) := by decide +kernel
theorem dX12_hearAll_5 : decode cX12_hearAll 5 = .ok (.if_icmp .ge 16, 3) := by decide +kernel
theorem dX12_hearAll_8 : decode cX12_hearAll 8 = .ok (.aload_n 0, 1) := by decide +kernel
theorem dX12_hearAll_9 : decode cX12_hearAll 9 = .ok (.getfield 54, 3) := by decide +kernel
theorem dX12_hearAll_12 : decode cX12_hearAll 12 = .ok (.iload_n 1, 1) := by decide +kernel
theorem dX12_hearAll_13 : decode cX12_hearAll 13 = .ok (.iconst 0, 1) := by decide +kernel
theorem dX12_hearAll_14 : decode cX12_hearAll 14 = .ok (.bastore, 1) := by decide +kernel
theorem dX12_hearAll_15 : decode cX12_hearAll 15 = .ok (.iinc 1 1, 3) := by decide +kernel
theorem dX12_hearAll_18 : decode cX12_hearAll 18 = .ok (.goto (-16), 3) := by decide +kernel
theorem dX12_hearAll_21 : decode cX12_hearAll 21 = .ok (.return_, 1) := by decide +kernel
set_option maxRecDepth 20000 in
theorem ggX12_isAgreed_X12_gather : GoodIn wsX12_isAgreed wsX12_gather := goodIn_r _ [5, 6, 7, 8, 9, 10, 11, 12, 4, 13, 14, 15, 16, 17, 18, 19, 20, 21, 22, 23, 24, 25, 26, 27, 28, 29, 36, 37, 38, 39, 40, 41, 42, 43, 44, 45, 46, 47, 48, 49, 50, 51, 52, 53, 54, 55, 56, 57, 58, 59, 60, 61, 62, 63, 64, 65, 66, 67, 68] rfl (by decide +kernel)
set_option maxRecDepth 20000 in
theorem gX12_isAgreed_X12_gather : GoodIn wsX12_isAgreed (wsV RX12 218 RX12 yX12_gather wsX12_gather) := goodIn_app (goodIn_of _ (by decide +kernel)) ggX12_isAgreed_X12_gather
set_option maxRecDepth 20000 in
theorem ggX12_isAgreed_X12_goes : GoodIn wsX12_isAgreed wsX12_goes := goodIn_r _ [33, 7, 34, 35, 6, 14, 16, 15, 36, 37, 38, 39, 40, 41, 42, 43, 44, 45, 46, 47, 48, 49, 50, 51, 52, 53, 54, 55, 56, 57, 58, 59, 60, 61, 62, 63, 64, 65, 66, 67, 68] rfl (by decide +kernel)
set_option maxRecDepth 20000 in
theorem gX12_isAgreed_X12_goes : GoodIn wsX12_isAgreed (wsV RX12 221 RX12 yX12_goes wsX12_goes) := goodIn_app (goodIn_of _ (by decide +kernel)) ggX12_isAgreed_X12_goes
theorem dX12_isAgreed_0 : decode cX12_isAgreed 0 = .ok (.aload_n 0, 1) := by decide +kernel
theorem dX12_isAgreed_1 : decode cX12_isAgreed 1 = .ok (.iload_n 1, 1) := by decide +kernel
theorem dX12_isAgreed_2 : decode cX12_isAgreed 2 = .ok (.invokevirtual 218, 3) := by decide +kernel
theorem dX12_isAgreed_5 : decode cX12_isAgreed 5 = .ok (.aload_n 0, 1) := by decide +kernel
theorem dX12_isAgreed_6 : decode cX12_isAgreed 6 = .ok (.iconst (-1), 1) := by decide +kernel
theorem dX12_isAgreed_7 : decode cX12_isAgreed 7 = .ok (.invokevirtual 221, 3) := by decide +kernel
theorem dX12_isAgreed_10 : decode cX12_isAgreed 10 = .ok (.ireturn, 1) := by decide +kernel
set_option maxRecDepth 20000 in
theorem ggX12_agree_X12_hearAll : GoodIn wsX12_agree wsX12_hearAll := goodIn_r _ [7, 8, 46, 47, 48, 49, 50, 51, 52, 53, 54, 55, 56, 57, 58, 59, 60, 61, 62, 63, 64, 65, 66, 67, 68, 69, 70, 71, 72, 73, 74, 75, 76, 77, 78] rfl (by decide +kernel)
set_option maxRecDepth 20000 in
theorem gX12_agree_X12_hearAll : GoodIn wsX12_agree (wsV RX12 224 RX12 yX12_hearAll wsX12_hearAll) := goodIn_app (goodIn_of _ (by decide +kernel)) ggX12_agree_X12_hearAll
set_option maxRecDepth 20000 in
theorem ggX12_agree_X12_isAgreed : GoodIn wsX12_agree wsX12_isAgreed := goodIn_r _ [12, 13, 14, 15, 6, 16, 17, 18, 19, 8, 20, 21, 22, 23, 24, 25, 26, 27, 28, 29, 30, 31, 32, 33, 34, 35, 36, 37, 38, 39, 40, 41, 42, 43, 44, 45, 46, 47, 48, 49, 50, 51, 52, 53, 54, 55, 56, 57, 58, 59, 60, 61, 62, 63, 64, 65, 66, 67, 68, 69, 70, 71, 72, 73, 74, 75, 76, 77, 78] rfl (by decide +kernel)
set_option maxRecDepth 20000 in
theorem gX12_agree_X12_isAgreed : GoodIn wsX12_agree (wsV RX12 227 RX12 yX12_isAgreed wsX12_isAgreed) := goodIn_app (goodIn_of _ (by decide +kernel)) ggX12_agree_X12_isAgreed
theorem dX12_agree_0 : decode cX12_agree 0 = .ok (.aload_n 0, 1) := by decide +kernel
theorem dX12_agree_1 : decode cX12_agree 1 = .ok (.iconst 0, 1) := by decide +kernel
theorem dX12_agree_2 : decode cX12_agree 2 = .ok (.putfield 70, 3) := by decide +kernel
theorem dX12_agree_5 : decode cX12_agree 5 = .ok (.aload_n 0, 1) := by decide +kernel
theorem dX12_agree_6 : decode cX12_agree 6 = .ok (.invokevirtual 224, 3) := by decide +kernel
theorem dX12_agree_9 : decode cX12_agree 9 = .ok (.aload_n 0, 1) := by decide +kernel
theorem dX12_agree_10 : decode cX12_agree 10 = .ok (.aload_n 0, 1) := by decide +kernel
theorem dX12_agree_11 : decode cX12_agree 11 = .ok (.getfield 38, 3) := by decide +kernel
theorem dX12_agree_14 : decode cX12_agree 14 = .ok (.invokevirtual 227, 3) := by decide +kernel
theorem dX12_agree_17 : decode cX12_agree 17 = .ok (.ifCond .eq 7, 3) := by decide +kernel
theorem dX12_agree_20 : decode cX12_agree 20 = .ok (.iconst 1, 1) := by decide +kernel
theorem dX12_agree_21 : decode cX12_agree 21 = .ok (.goto 4, 3) := by decide +kernel
theorem dX12_agree_24 : decode cX12_agree 24 = .ok (.iconst 0, 1) := by decide +kernel
theorem dX12_agree_25 : decode cX12_agree 25 = .ok (.ireturn, 1) := by decide +kernel
set_option maxRecDepth 20000 in
theorem ggX12_mostOf_X12_goes : GoodIn wsX12_mostOf wsX12_goes := goodIn_r _ [6, 7, 1, 8, 9, 10, 11, 12, 13, 14, 15, 16, 17, 18, 19, 20, 21, 22, 23, 24, 25, 26, 27, 28, 29, 30, 31, 32, 33, 34, 35, 36, 37, 38, 39, 40, 41, 42, 43, 44, 45] rfl (by decide +kernel)
set_option maxRecDepth 20000 in
theorem gX12_mostOf_X12_goes : GoodIn wsX12_mostOf (wsV RX12 221 RX12 yX12_goes wsX12_goes) := goodIn_app (goodIn_of _ (by decide +kernel)) ggX12_mostOf_X12_goes
theorem dX12_mostOf_0 : decode cX12_mostOf 0 = .ok (.aload_n 0, 1) := by decide +kernel
theorem dX12_mostOf_1 : decode cX12_mostOf 1 = .ok (.iload_n 1, 1) := by decide +kernel
theorem dX12_mostOf_2 : decode cX12_mostOf 2 = .ok (.invokevirtual 221, 3) := by decide +kernel
theorem dX12_mostOf_5 : decode cX12_mostOf 5 = .ok (.pop, 1) := by decide +kernel
theorem dX12_mostOf_6 : decode cX12_mostOf 6 = .ok (.aload_n 0, 1) := by decide +kernel
theorem dX12_mostOf_7 : decode cX12_mostOf 7 = .ok (.getfield 58, 3) := by decide +kernel
theorem dX12_mostOf_10 : decode cX12_mostOf 10 = .ok (.iload_n 2, 1) := by decide +kernel
theorem dX12_mostOf_11 : decode cX12_mostOf 11 = .ok (.iaload, 1) := by decide +kernel
theorem dX12_mostOf_12 : decode cX12_mostOf 12 = .ok (.ireturn, 1) := by decide +kernel
theorem dX12_isHappening_0 : decode cX12_isHappening 0 = .ok (.iload_n 1, 1) := by decide +kernel
theorem dX12_isHappening_1 : decode cX12_isHappening 1 = .ok (.ifCond .lt 15, 3) := by decide +kernel
theorem dX12_isHappening_4 : decode cX12_isHappening 4 = .ok (.iload_n 1, 1) := by decide +kernel
theorem dX12_isHappening_5 : decode cX12_isHappening 5 = .ok (.aload_n 0, 1) := by decide +kernel
theorem dX12_isHappening_6 : decode cX12_isHappening 6 = .ok (.getfield 181, 3) := by decide +kernel
theorem dX12_isHappening_9 : decode cX12_isHappening 9 = .ok (.if_icmp .ge 7, 3) := by decide +kernel
theorem dX12_isHappening_12 : decode cX12_isHappening 12 = .ok (.iconst 1, 1) := by decide +kernel
theorem dX12_isHappening_13 : decode cX12_isHappening 13 = .ok (.goto 4, 3) := by decide +kernel
theorem dX12_isHappening_16 : decode cX12_isHappening 16 = .ok (.iconst 0, 1) := by decide +kernel
theorem dX12_isHappening_17 : decode cX12_isHappening 17 = .ok (.ireturn, 1) := by decide +kernel
set_option maxRecDepth 20000 in
theorem ggX12_bound_X12_isHappening : GoodIn wsX12_bound wsX12_isHappening := goodIn_r _ [6, 7, 58, 59, 60, 61, 62, 63, 64, 65, 66, 67, 68, 69, 70, 71, 72, 73, 74, 75, 76, 77, 78, 79, 80, 81, 82, 83, 84, 85, 86, 87, 88, 89, 90] rfl (by decide +kernel)
set_option maxRecDepth 20000 in
theorem gX12_bound_X12_isHappening : GoodIn wsX12_bound (wsV RX12 230 RX12 yX12_isHappening wsX12_isHappening) := goodIn_app (goodIn_of _ (by decide +kernel)) ggX12_bound_X12_isHappening
set_option maxRecDepth 20000 in
theorem ggX12_bound_X12_agree : GoodIn wsX12_bound wsX12_agree := goodIn_r _ [11, 1, 12, 13, 14, 15, 5, 16, 17, 18, 19, 20, 21, 22, 23, 24, 25, 26, 7, 27, 28, 29, 30, 31, 32, 33, 34, 35, 36, 37, 38, 39, 40, 41, 42, 43, 44, 45, 46, 47, 48, 49, 50, 51, 52, 53, 58, 59, 60, 61, 62, 63, 64, 65, 66, 67, 68, 69, 70, 71, 72, 73, 74, 75, 76, 77, 78, 79, 80, 81, 82, 83, 84, 85, 86, 87, 88, 89, 90] rfl (by decide +kernel)
set_option maxRecDepth 20000 in
theorem gX12_bound_X12_agree : GoodIn wsX12_bound (wsV RX12 233 RX12 yX12_agree wsX12_agree) := goodIn_app (goodIn_of _ (by decide +kernel)) ggX12_bound_X12_agree
set_option maxRecDepth 20000 in
theorem ggX12_bound_X12_mostOf : GoodIn wsX12_bound wsX12_mostOf := goodIn_r _ [57, 52, 48, 49, 50, 5, 51, 7, 53, 26, 32, 34, 33, 58, 59, 60, 61, 62, 63, 64, 65, 66, 67, 68, 69, 70, 71, 72, 73, 74, 75, 76, 77, 78, 79, 80, 81, 82, 83, 84, 85, 86, 87, 88, 89, 90] rfl (by decide +kernel)
set_option maxRecDepth 20000 in
theorem gX12_bound_X12_mostOf : GoodIn wsX12_bound (wsV RX12 237 RX12 yX12_mostOf wsX12_mostOf) := goodIn_app (goodIn_of _ (by decide +kernel)) ggX12_bound_X12_mostOf
theorem dX12_bound_0 : decode cX12_bound 0 = .ok (.aload_n 0, 1) := by decide +kernel
theorem dX12_bound_1 : decode cX12_bound 1 = .ok (.iconst 0, 1) := by decide +kernel
theorem dX12_bound_2 : decode cX12_bound 2 = .ok (.putfield 70, 3) := by decide +kernel
theorem dX12_bound_5 : decode cX12_bound 5 = .ok (.aload_n 0, 1) := by decide +kernel
theorem dX12_bound_6 : decode cX12_bound 6 = .ok (.iload_n 1, 1) := by decide +kernel
theorem dX12_bound_7 : decode cX12_bound 7 = .ok (.invokevirtual 230, 3) := by decide +kernel
theorem dX12_bound_10 : decode cX12_bound 10 = .ok (.ifCond .eq 19, 3) := by decide +kernel
theorem dX12_bound_13 : decode cX12_bound 13 = .ok (.iload_n 2, 1) := by decide +kernel
theorem dX12_bound_14 : decode cX12_bound 14 = .ok (.ifCond .lt 15, 3) := by decide +kernel
theorem dX12_bound_17 : decode cX12_bound 17 = .ok (.iload_n 2, 1) := by decide +kernel
theorem dX12_bound_18 : decode cX12_bound 18 = .ok (.iconst 3, 1) := by decide +kernel
theorem dX12_bound_19 : decode cX12_bound 19 = .ok (.if_icmp .gt 10, 3) := by decide +kernel
theorem dX12_bound_22 : decode cX12_bound 22 = .ok (.aload_n 0, 1) := by decide +kernel
theorem dX12_bound_23 : decode cX12_bound 23 = .ok (.invokevirtual 233, 3) := by decide +kernel
theorem dX12_bound_26 : decode cX12_bound 26 = .ok (.ifCond .ne 5, 3) := by decide +kernel
theorem dX12_bound_29 : decode cX12_bound 29 = .ok (.iconst (-1), 1) := by decide +kernel
theorem dX12_bound_30 : decode cX12_bound 30 = .ok (.ireturn, 1) := by decide +kernel
theorem dX12_bound_31 : decode cX12_bound 31 = .ok (.iconst 1, 1) := by decide +kernel
theorem dX12_bound_32 : decode cX12_bound 32 = .ok (.iconst 2, 1) := by decide +kernel
theorem dX12_bound_33 : decode cX12_bound 33 = .ok (.iload_n 1, 1) := by decide +kernel
theorem dX12_bound_34 : decode cX12_bound 34 = .ok (.imul, 1) := by decide +kernel
theorem dX12_bound_35 : decode cX12_bound 35 = .ok (.iadd, 1) := by decide +kernel
theorem dX12_bound_36 : decode cX12_bound 36 = .ok (.iload_n 2, 1) := by decide +kernel
theorem dX12_bound_37 : decode cX12_bound 37 = .ok (.iconst 2, 1) := by decide +kernel
theorem dX12_bound_38 : decode cX12_bound 38 = .ok (.idiv, 1) := by decide +kernel
theorem dX12_bound_39 : decode cX12_bound 39 = .ok (.iadd, 1) := by decide +kernel
theorem dX12_bound_40 : decode cX12_bound 40 = .ok (.istore_n 3, 1) := by decide +kernel
theorem dX12_bound_41 : decode cX12_bound 41 = .ok (.iload_n 2, 1) := by decide +kernel
theorem dX12_bound_42 : decode cX12_bound 42 = .ok (.iconst 2, 1) := by decide +kernel
theorem dX12_bound_43 : decode cX12_bound 43 = .ok (.irem, 1) := by decide +kernel
theorem dX12_bound_44 : decode cX12_bound 44 = .ok (.ifCond .ne 13, 3) := by decide +kernel
theorem dX12_bound_47 : decode cX12_bound 47 = .ok (.aload_n 0, 1) := by decide +kernel
theorem dX12_bound_48 : decode cX12_bound 48 = .ok (.iload_n 3, 1) := by decide +kernel
theorem dX12_bound_49 : decode cX12_bound 49 = .ok (.iconst 0, 1) := by decide +kernel
theorem dX12_bound_50 : decode cX12_bound 50 = .ok (.invokevirtual 237, 3) := by decide +kernel
theorem dX12_bound_53 : decode cX12_bound 53 = .ok (.ineg, 1) := by decide +kernel
theorem dX12_bound_54 : decode cX12_bound 54 = .ok (.goto 9, 3) := by decide +kernel
theorem dX12_bound_57 : decode cX12_bound 57 = .ok (.aload_n 0, 1) := by decide +kernel
theorem dX12_bound_58 : decode cX12_bound 58 = .ok (.iconst 0, 1) := by decide +kernel
theorem dX12_bound_59 : decode cX12_bound 59 = .ok (.iload_n 3, 1) := by decide +kernel
theorem dX12_bound_60 : decode cX12_bound 60 = .ok (.invokevirtual 237, 3) := by decide +kernel
theorem dX12_bound_63 : decode cX12_bound 63 = .ok (.ireturn, 1) := by decide +kernel
set_option maxRecDepth 20000 in
theorem ggX12_between_X12_isHappening : GoodIn wsX12_between wsX12_isHappening := goodIn_r _ [6, 7, 62, 63, 64, 65, 66, 67, 68, 69, 70, 71, 72, 73, 74, 75, 76, 77, 78, 79, 80, 81, 82, 83, 84, 85, 86, 87, 88, 89, 90, 91, 92, 93, 94] rfl (by decide +kernel)
set_option maxRecDepth 20000 in
theorem gX12_between_X12_isHappening : GoodIn wsX12_between (wsV RX12 230 RX12 yX12_isHappening wsX12_isHappening) := goodIn_app (goodIn_of _ (by decide +kernel)) ggX12_between_X12_isHappening
set_option maxRecDepth 20000 in
theorem ggX12_between_X12_agree : GoodIn wsX12_between wsX12_agree := goodIn_r _ [11, 1, 12, 13, 14, 15, 5, 16, 17, 18, 19, 20, 21, 22, 23, 24, 25, 26, 7, 27, 28, 29, 30, 31, 32, 33, 34, 35, 36, 37, 38, 39, 40, 41, 42, 43, 44, 45, 46, 47, 48, 49, 50, 51, 52, 53, 62, 63, 64, 65, 66, 67, 68, 69, 70, 71, 72, 73, 74, 75, 76, 77, 78, 79, 80, 81, 82, 83, 84, 85, 86, 87, 88, 89, 90, 91, 92, 93, 94] rfl (by decide +kernel)
set_option maxRecDepth 20000 in
theorem gX12_between_X12_agree : GoodIn wsX12_between (wsV RX12 233 RX12 yX12_agree wsX12_agree) := goodIn_app (goodIn_of _ (by decide +kernel)) ggX12_between_X12_agree
set_option maxRecDepth 20000 in
theorem ggX12_between_X12_refuse : GoodIn wsX12_between wsX12_refuse := goodIn_r _ [57, 1, 62, 63, 64, 65, 66, 67, 68, 69, 70, 71, 72, 73, 74, 75, 76, 77, 78, 79, 80, 81, 82, 83, 84, 85, 86, 87, 88, 89, 90, 91, 92, 93, 94] rfl (by decide +kernel)
set_option maxRecDepth 20000 in
theorem gX12_between_X12_refuse : GoodIn wsX12_between (wsV RX12 190 RX12 yX12_refuse wsX12_refuse) := goodIn_app (goodIn_of _ (by decide +kernel)) ggX12_between_X12_refuse
set_option maxRecDepth 20000 in
theorem ggX12_between_X12_mostOf : GoodIn wsX12_between wsX12_mostOf := goodIn_r _ [61, 52, 48, 49, 50, 5, 51, 7, 53, 26, 32, 34, 33, 62, 63, 64, 65, 66, 67, 68, 69, 70, 71, 72, 73, 74, 75, 76, 77, 78, 79, 80, 81, 82, 83, 84, 85, 86, 87, 88, 89, 90, 91, 92, 93, 94] rfl (by decide +kernel)
set_option maxRecDepth 20000 in
theorem gX12_between_X12_mostOf : GoodIn wsX12_between (wsV RX12 237 RX12 yX12_mostOf wsX12_mostOf) := goodIn_app (goodIn_of _ (by decide +kernel)) ggX12_between_X12_mostOf
theorem dX12_between_0 : decode cX12_between 0 = .ok (.aload_n 0, 1) := by decide +kernel
theorem dX12_between_1 : decode cX12_between 1 = .ok (.iload_n 1, 1) := by decide +kernel
theorem dX12_between_2 : decode cX12_between 2 = .ok (.invokevirtual 230, 3) := by decide +kernel
theorem dX12_between_5 : decode cX12_between 5 = .ok (.ifCond .eq 18, 3) := by decide +kernel
theorem dX12_between_8 : decode cX12_between 8 = .ok (.aload_n 0, 1) := by decide +kernel
theorem dX12_between_9 : decode cX12_between 9 = .ok (.iload_n 2, 1) := by decide +kernel
theorem dX12_between_10 : decode cX12_between 10 = .ok (.invokevirtual 230, 3) := by decide +kernel
theorem dX12_between_13 : decode cX12_between 13 = .ok (.ifCond .eq 10, 3) := by decide +kernel
theorem dX12_between_16 : decode cX12_between 16 = .ok (.aload_n 0, 1) := by decide +kernel
theorem dX12_between_17 : decode cX12_between 17 = .ok (.invokevirtual 233, 3) := by decide +kernel
theorem dX12_between_20 : decode cX12_between 20 = .ok (.ifCond .ne 9, 3) := by decide +kernel
theorem dX12_between_23 : decode cX12_between 23 = .ok (.aload_n 0, 1) := by decide +kernel
theorem dX12_between_24 : decode cX12_between 24 = .ok (.iconst 1, 1) := by decide +kernel
theorem dX12_between_25 : decode cX12_between 25 = .ok (.invokevirtual 190, 3) := by decide +kernel
theorem dX12_between_28 : decode cX12_between 28 = .ok (.ireturn, 1) := by decide +kernel
theorem dX12_between_29 : decode cX12_between 29 = .ok (.aload_n 0, 1) := by decide +kernel
theorem dX12_between_30 : decode cX12_between 30 = .ok (.iconst 0, 1) := by decide +kernel
theorem dX12_between_31 : decode cX12_between 31 = .ok (.putfield 70, 3) := by decide +kernel
theorem dX12_between_34 : decode cX12_between 34 = .ok (.iload_n 3, 1) := by decide +kernel
theorem dX12_between_35 : decode cX12_between 35 = .ok (.ifCond .eq 20, 3) := by decide +kernel
theorem dX12_between_38 : decode cX12_between 38 = .ok (.aload_n 0, 1) := by decide +kernel
theorem dX12_between_39 : decode cX12_between 39 = .ok (.iconst 2, 1) := by decide +kernel
theorem dX12_between_40 : decode cX12_between 40 = .ok (.iconst 2, 1) := by decide +kernel
theorem dX12_between_41 : decode cX12_between 41 = .ok (.iload_n 1, 1) := by decide +kernel
theorem dX12_between_42 : decode cX12_between 42 = .ok (.imul, 1) := by decide +kernel
theorem dX12_between_43 : decode cX12_between 43 = .ok (.iadd, 1) := by decide +kernel
theorem dX12_between_44 : decode cX12_between 44 = .ok (.iconst 1, 1) := by decide +kernel
theorem dX12_between_45 : decode cX12_between 45 = .ok (.iconst 2, 1) := by decide +kernel
theorem dX12_between_46 : decode cX12_between 46 = .ok (.iload_n 2, 1) := by decide +kernel
theorem dX12_between_47 : decode cX12_between 47 = .ok (.imul, 1) := by decide +kernel
theorem dX12_between_48 : decode cX12_between 48 = .ok (.iadd, 1) := by decide +kernel
theorem dX12_between_49 : decode cX12_between 49 = .ok (.invokevirtual 237, 3) := by decide +kernel
theorem dX12_between_52 : decode cX12_between 52 = .ok (.goto 18, 3) := by decide +kernel
theorem dX12_between_55 : decode cX12_between 55 = .ok (.aload_n 0, 1) := by decide +kernel
theorem dX12_between_56 : decode cX12_between 56 = .ok (.iconst 1, 1) := by decide +kernel
theorem dX12_between_57 : decode cX12_between 57 = .ok (.iconst 2, 1) := by decide +kernel
theorem dX12_between_58 : decode cX12_between 58 = .ok (.iload_n 2, 1) := by decide +kernel
theorem dX12_between_59 : decode cX12_between 59 = .ok (.imul, 1) := by decide +kernel
theorem dX12_between_60 : decode cX12_between 60 = .ok (.iadd, 1) := by decide +kernel
theorem dX12_between_61 : decode cX12_between 61 = .ok (.iconst 2, 1) := by decide +kernel
theorem dX12_between_62 : decode cX12_between 62 = .ok (.iconst 2, 1) := by decide +kernel
theorem dX12_between_63 : decode cX12_between 63 = .ok (.iload_n 1, 1) := by decide +kernel
theorem dX12_between_64 : decode cX12_between 64 = .ok (.imul, 1) := by decide +kernel
theorem dX12_between_65 : decode cX12_between 65 = .ok (.iadd, 1) := by decide +kernel
theorem dX12_between_66 : decode cX12_between 66 = .ok (.invokevirtual 237, 3) := by decide +kernel
theorem dX12_between_69 : decode cX12_between 69 = .ok (.ineg, 1) := by decide +kernel
theorem dX12_between_70 : decode cX12_between 70 = .ok (.ireturn, 1) := by decide +kernel
set_option maxRecDepth 20000 in
theorem ggX12_order_X12_isHappening : GoodIn wsX12_order wsX12_isHappening := goodIn_r _ [6, 7, 58, 59, 60, 61, 62, 63, 64, 65, 66, 67, 68, 69, 70, 71, 72, 73, 74, 75, 76, 77, 78, 79, 80, 81, 82, 83, 84, 85, 86, 87, 88, 89, 90] rfl (by decide +kernel)
set_option maxRecDepth 20000 in
theorem gX12_order_X12_isHappening : GoodIn wsX12_order (wsV RX12 230 RX12 yX12_isHappening wsX12_isHappening) := goodIn_app (goodIn_of _ (by decide +kernel)) ggX12_order_X12_isHappening
set_option maxRecDepth 20000 in
theorem ggX12_order_X12_agree : GoodIn wsX12_order wsX12_agree := goodIn_r _ [11, 1, 12, 13, 14, 15, 5, 16, 17, 18, 19, 20, 21, 22, 23, 24, 25, 26, 7, 27, 28, 29, 30, 31, 32, 33, 34, 35, 36, 37, 38, 39, 40, 41, 42, 43, 44, 45, 46, 47, 48, 49, 50, 51, 52, 53, 58, 59, 60, 61, 62, 63, 64, 65, 66, 67, 68, 69, 70, 71, 72, 73, 74, 75, 76, 77, 78, 79, 80, 81, 82, 83, 84, 85, 86, 87, 88, 89, 90] rfl (by decide +kernel)
set_option maxRecDepth 20000 in
theorem gX12_order_X12_agree : GoodIn wsX12_order (wsV RX12 233 RX12 yX12_agree wsX12_agree) := goodIn_app (goodIn_of _ (by decide +kernel)) ggX12_order_X12_agree
set_option maxRecDepth 20000 in
theorem ggX12_order_X12_mostOf : GoodIn wsX12_order wsX12_mostOf := goodIn_r _ [57, 52, 48, 49, 50, 5, 51, 7, 53, 26, 32, 34, 33, 58, 59, 60, 61, 62, 63, 64, 65, 66, 67, 68, 69, 70, 71, 72, 73, 74, 75, 76, 77, 78, 79, 80, 81, 82, 83, 84, 85, 86, 87, 88, 89, 90] rfl (by decide +kernel)
set_option maxRecDepth 20000 in
theorem gX12_order_X12_mostOf : GoodIn wsX12_order (wsV RX12 237 RX12 yX12_mostOf wsX12_mostOf) := goodIn_app (goodIn_of _ (by decide +kernel)) ggX12_order_X12_mostOf
theorem dX12_order_0 : decode cX12_order 0 = .ok (.aload_n 0, 1) := by decide +kernel
theorem dX12_order_1 : decode cX12_order 1 = .ok (.iconst 0, 1) := by decide +kernel
theorem dX12_order_2 : decode cX12_order 2 = .ok (.putfield 70, 3) := by decide +kernel
theorem dX12_order_5 : decode cX12_order 5 = .ok (.aload_n 0, 1) := by decide +kernel
theorem dX12_order_6 : decode cX12_order 6 = .ok (.iload_n 1, 1) := by decide +kernel
theorem dX12_order_7 : decode cX12_order 7 = .ok (.invokevirtual 230, 3) := by decide +kernel
theorem dX12_order_10 : decode cX12_order 10 = .ok (.ifCond .eq 18, 3) := by decide +kernel
theorem dX12_order_13 : decode cX12_order 13 = .ok (.aload_n 0, 1) := by decide +kernel
theorem dX12_order_14 : decode cX12_order 14 = .ok (.iload_n 2, 1) := by decide +kernel
theorem dX12_order_15 : decode cX12_order 15 = .ok (.invokevirtual 230, 3) := by decide +kernel
theorem dX12_order_18 : decode cX12_order 18 = .ok (.ifCond .eq 10, 3) := by decide +kernel
theorem dX12_order_21 : decode cX12_order 21 = .ok (.aload_n 0, 1) := by decide +kernel
theorem dX12_order_22 : decode cX12_order 22 = .ok (.invokevirtual 233, 3) := by decide +kernel
theorem dX12_order_25 : decode cX12_order 25 = .ok (.ifCond .ne 6, 3) := by decide +kernel
theorem dX12_order_28 : decode cX12_order 28 = .ok (.bipush (-2), 2) := by decide +kernel
theorem dX12_order_30 : decode cX12_order 30 = .ok (.ireturn, 1) := by decide +kernel
theorem dX12_order_31 : decode cX12_order 31 = .ok (.aload_n 0, 1) := by decide +kernel
theorem dX12_order_32 : decode cX12_order 32 = .ok (.iconst 1, 1) := by decide +kernel
theorem dX12_order_33 : decode cX12_order 33 = .ok (.iconst 2, 1) := by decide +kernel
theorem dX12_order_34 : decode cX12_order 34 = .ok (.iload_n 2, 1) := by decide +kernel
theorem dX12_order_35 : decode cX12_order 35 = .ok (.imul, 1) := by decide +kernel
theorem dX12_order_36 : decode cX12_order 36 = .ok (.iadd, 1) := by decide +kernel
theorem dX12_order_37 : decode cX12_order 37 = .ok (.iconst 2, 1) := by decide +kernel
theorem dX12_order_38 : decode cX12_order 38 = .ok (.iconst 2, 1) := by decide +kernel
theorem dX12_order_39 : decode cX12_order 39 = .ok (.iload_n 1, 1) := by decide +kernel
theorem dX12_order_40 : decode cX12_order 40 = .ok (.imul, 1) := by decide +kernel
theorem dX12_order_41 : decode cX12_order 41 = .ok (.iadd, 1) := by decide +kernel
theorem dX12_order_42 : decode cX12_order 42 = .ok (.invokevirtual 237, 3) := by decide +kernel
theorem dX12_order_45 : decode cX12_order 45 = .ok (.ineg, 1) := by decide +kernel
theorem dX12_order_46 : decode cX12_order 46 = .ok (.ifCond .le 5, 3) := by decide +kernel
theorem dX12_order_49 : decode cX12_order 49 = .ok (.iconst 1, 1) := by decide +kernel
theorem dX12_order_50 : decode cX12_order 50 = .ok (.ireturn, 1) := by decide +kernel
theorem dX12_order_51 : decode cX12_order 51 = .ok (.aload_n 0, 1) := by decide +kernel
theorem dX12_order_52 : decode cX12_order 52 = .ok (.iconst 2, 1) := by decide +kernel
theorem dX12_order_53 : decode cX12_order 53 = .ok (.iconst 2, 1) := by decide +kernel
theorem dX12_order_54 : decode cX12_order 54 = .ok (.iload_n 1, 1) := by decide +kernel
theorem dX12_order_55 : decode cX12_order 55 = .ok (.imul, 1) := by decide +kernel
theorem dX12_order_56 : decode cX12_order 56 = .ok (.iadd, 1) := by decide +kernel
theorem dX12_order_57 : decode cX12_order 57 = .ok (.iconst 1, 1) := by decide +kernel
theorem dX12_order_58 : decode cX12_order 58 = .ok (.iconst 2, 1) := by decide +kernel
theorem dX12_order_59 : decode cX12_order 59 = .ok (.iload_n 2, 1) := by decide +kernel
theorem dX12_order_60 : decode cX12_order 60 = .ok (.imul, 1) := by decide +kernel
theorem dX12_order_61 : decode cX12_order 61 = .ok (.iadd, 1) := by decide +kernel
theorem dX12_order_62 : decode cX12_order 62 = .ok (.invokevirtual 237, 3) := by decide +kernel
theorem dX12_order_65 : decode cX12_order 65 = .ok (.ifCond .gt 7, 3) := by decide +kernel
theorem dX12_order_68 : decode cX12_order 68 = .ok (.iconst (-1), 1) := by decide +kernel
theorem dX12_order_69 : decode cX12_order 69 = .ok (.goto 4, 3) := by decide +kernel
theorem dX12_order_72 : decode cX12_order 72 = .ok (.iconst 0, 1) := by decide +kernel
theorem dX12_order_73 : decode cX12_order 73 = .ok (.ireturn, 1) := by decide +kernel
set_option maxRecDepth 20000 in
theorem ggX12_try0_X12_hearAll : GoodIn wsX12_try0 wsX12_hearAll := goodIn_r _ [9, 3, 46, 47, 48, 49, 50, 51, 52, 53, 54, 55, 56, 57, 58, 59, 60, 61, 62, 63, 64, 65, 66, 67, 68, 69, 70, 71, 72, 73, 74, 75, 76, 77, 78] rfl (by decide +kernel)
set_option maxRecDepth 20000 in
theorem gX12_try0_X12_hearAll : GoodIn wsX12_try0 (wsV RX12 224 RX12 yX12_hearAll wsX12_hearAll) := goodIn_app (goodIn_of _ (by decide +kernel)) ggX12_try0_X12_hearAll
set_option maxRecDepth 20000 in
theorem ggX12_try0_X12_isAgreed : GoodIn wsX12_try0 wsX12_isAgreed := goodIn_r _ [13, 14, 15, 16, 8, 17, 18, 19, 2, 3, 20, 21, 22, 23, 24, 25, 26, 27, 28, 29, 30, 31, 32, 33, 34, 35, 36, 37, 38, 39, 40, 41, 42, 43, 44, 45, 46, 47, 48, 49, 50, 51, 52, 53, 54, 55, 56, 57, 58, 59, 60, 61, 62, 63, 64, 65, 66, 67, 68, 69, 70, 71, 72, 73, 74, 75, 76, 77, 78] rfl (by decide +kernel)
set_option maxRecDepth 20000 in
theorem gX12_try0_X12_isAgreed : GoodIn wsX12_try0 (wsV RX12 227 RX12 yX12_isAgreed wsX12_isAgreed) := goodIn_app (goodIn_of _ (by decide +kernel)) ggX12_try0_X12_isAgreed
theorem dX12_try0_0 : decode cX12_try0 0 = .ok (.aload_n 0, 1) := by decide +kernel
theorem dX12_try0_1 : decode cX12_try0 1 = .ok (.invokevirtual 224, 3) := by decide +kernel
theorem dX12_try0_4 : decode cX12_try0 4 = .ok (.aload_n 0, 1) := by decide +kernel
theorem dX12_try0_5 : decode cX12_try0 5 = .ok (.aload_n 0, 1) := by decide +kernel
theorem dX12_try0_6 : decode cX12_try0 6 = .ok (.getfield 38, 3) := by decide +kernel
theorem dX12_try0_9 : decode cX12_try0 9 = .ok (.invokevirtual 227, 3) := by decide +kernel
theorem dX12_try0_12 : decode cX12_try0 12 = .ok (.ifCond .eq 5, 3) := by decide +kernel
theorem dX12_try0_15 : decode cX12_try0 15 = .ok (.iconst 0, 1) := by decide +kernel
theorem dX12_try0_16 : decode cX12_try0 16 = .ok (.ireturn, 1) := by decide +kernel
theorem dX12_try0_17 : decode cX12_try0 17 = .ok (.iconst 0, 1) := by decide +kernel
theorem dX12_try0_18 : decode cX12_try0 18 = .ok (.istore_n 1, 1) := by decide +kernel
theorem dX12_try0_19 : decode cX12_try0 19 = .ok (.iconst 0, 1) := by decide +kernel
theorem dX12_try0_20 : decode cX12_try0 20 = .ok (.istore_n 2, 1) := by decide +kernel
theorem dX12_try0_21 : decode cX12_try0 21 = .ok (.iload_n 2, 1) := by decide +kernel
theorem dX12_try0_22 : decode cX12_try0 22 = .ok (.bipush 6, 2) := by decide +kernel
theorem dX12_try0_24 : decode cX12_try0 24 = .ok (.if_icmp .ge 94, 3) := by decide +kernel
theorem dX12_try0_27 : decode cX12_try0 27 = .ok (.iconst 0, 1) := by decide +kernel
theorem dX12_try0_28 : decode cX12_try0 28 = .ok (.istore_n 3, 1) := by decide +kernel
theorem dX12_try0_29 : decode cX12_try0 29 = .ok (.iload_n 3, 1) := by decide +kernel
theorem dX12_try0_30 : decode cX12_try0 30 = .ok (.aload_n 0, 1) := by decide +kernel
theorem dX12_try0_31 : decode cX12_try0 31 = .ok (.getfield 17, 3) := by decide +kernel
theorem dX12_try0_34 : decode cX12_try0 34 = .ok (.iload_n 2, 1) := by decide +kernel
theorem dX12_try0_35 : decode cX12_try0 35 = .ok (.iaload, 1) := by decide +kernel
theorem dX12_try0_36 : decode cX12_try0 36 = .ok (.if_icmp .ge 76, 3) := by decide +kernel
theorem dX12_try0_39 : decode cX12_try0 39 = .ok (.aload_n 0, 1) := by decide +kernel
theorem dX12_try0_40 : decode cX12_try0 40 = .ok (.getfield 38, 3) := by decide +kernel
theorem dX12_try0_43 : decode cX12_try0 43 = .ok (.iload_n 2, 1) := by decide +kernel
theorem dX12_try0_44 : decode cX12_try0 44 = .ok (.ishr, 1) := by decide +kernel
theorem dX12_try0_45 : decode cX12_try0 45 = .ok (.iconst 1, 1) := by decide +kernel
theorem dX12_try0_46 : decode cX12_try0 46 = .ok (.iand, 1) := by decide +kernel
theorem dX12_try0_47 : decode cX12_try0 47 = .ok (.ifCond .ne 6, 3) := by decide +kernel
theorem dX12_try0_50 : decode cX12_try0 50 = .ok (.goto 56, 3) := by decide +kernel
theorem dX12_try0_53 : decode cX12_try0 53 = .ok (.bipush 12, 2) := by decide +kernel
theorem dX12_try0_55 : decode cX12_try0 55 = .ok (.iload_n 2, 1) := by decide +kernel
theorem dX12_try0_56 : decode cX12_try0 56 = .ok (.imul, 1) := by decide +kernel
theorem dX12_try0_57 : decode cX12_try0 57 = .ok (.iload_n 3, 1) := by decide +kernel
theorem dX12_try0_58 : decode cX12_try0 58 = .ok (.iadd, 1) := by decide +kernel
theorem dX12_try0_59 : decode cX12_try0 59 = .ok (.istore 4, 2) := by decide +kernel
theorem dX12_try0_61 : decode cX12_try0 61 = .ok (.aload_n 0, 1) := by decide +kernel
theorem dX12_try0_62 : decode cX12_try0 62 = .ok (.getfield 54, 3) := by decide +kernel
theorem dX12_try0_65 : decode cX12_try0 65 = .ok (.iload 4, 2) := by decide +kernel
theorem dX12_try0_67 : decode cX12_try0 67 = .ok (.iconst 1, 1) := by decide +kernel
theorem dX12_try0_68 : decode cX12_try0 68 = .ok (.bastore, 1) := by decide +kernel
theorem dX12_try0_69 : decode cX12_try0 69 = .ok (.aload_n 0, 1) := by decide +kernel
theorem dX12_try0_70 : decode cX12_try0 70 = .ok (.aload_n 0, 1) := by decide +kernel
theorem dX12_try0_71 : decode cX12_try0 71 = .ok (.getfield 38, 3) := by decide +kernel
theorem dX12_try0_74 : decode cX12_try0 74 = .ok (.invokevirtual 227, 3) := by decide +kernel
theorem dX12_try0_77 : decode cX12_try0 77 = .ok (.ifCond .ne 6, 3) := by decide +kernel
theorem dX12_try0_80 : decode cX12_try0 80 = .ok (.goto 26, 3) := by decide +kernel
theorem dX12_try0_83 : decode cX12_try0 83 = .ok (.aload_n 0, 1) := by decide +kernel
theorem dX12_try0_84 : decode cX12_try0 84 = .ok (.getfield 54, 3) := by decide +kernel
theorem dX12_try0_87 : decode cX12_try0 87 = .ok (.iload 4, 2) := by decide +kernel
theorem dX12_try0_89 : decode cX12_try0 89 = .ok (.iconst 0, 1) := by decide +kernel
theorem dX12_try0_90 : decode cX12_try0 90 = .ok (.bastore, 1) := by decide +kernel
theorem dX12_try0_91 : decode cX12_try0 91 = .ok (.aload_n 0, 1) := by decide +kernel
theorem dX12_try0_92 : decode cX12_try0 92 = .ok (.getfield 61, 3) := by decide +kernel
theorem dX12_try0_95 : decode cX12_try0 95 = .ok (.iload_n 1, 1) := by decide +kernel
theorem dX12_try0_96 : decode cX12_try0 96 = .ok (.bipush 100, 2) := by decide +kernel
theorem dX12_try0_98 : decode cX12_try0 98 = .ok (.iload_n 2, 1) := by decide +kernel
theorem dX12_try0_99 : decode cX12_try0 99 = .ok (.imul, 1) := by decide +kernel
theorem dX12_try0_100 : decode cX12_try0 100 = .ok (.iload_n 3, 1) := by decide +kernel
theorem dX12_try0_101 : decode cX12_try0 101 = .ok (.iadd, 1) := by decide +kernel
theorem dX12_try0_102 : decode cX12_try0 102 = .ok (.iastore, 1) := by decide +kernel
theorem dX12_try0_103 : decode cX12_try0 103 = .ok (.iinc 1 1, 3) := by decide +kernel
theorem dX12_try0_106 : decode cX12_try0 106 = .ok (.iinc 3 1, 3) := by decide +kernel
theorem dX12_try0_109 : decode cX12_try0 109 = .ok (.goto (-80), 3) := by decide +kernel
theorem dX12_try0_112 : decode cX12_try0 112 = .ok (.iinc 2 1, 3) := by decide +kernel
theorem dX12_try0_115 : decode cX12_try0 115 = .ok (.goto (-94), 3) := by decide +kernel
theorem dX12_try0_118 : decode cX12_try0 118 = .ok (.iload_n 1, 1) := by decide +kernel
theorem dX12_try0_119 : decode cX12_try0 119 = .ok (.ireturn, 1) := by decide +kernel
set_option maxRecDepth 20000 in
theorem ggX12_quarrel_X12_try0 : GoodIn wsX12_quarrel wsX12_try0 := goodIn_r _ [6, 7, 8, 9, 10, 11, 12, 13, 5, 14, 15, 16, 17, 18, 19, 20, 21, 22, 23, 24, 25, 26, 27, 28, 29, 30, 31, 32, 33, 34, 35, 36, 37, 38, 39, 40, 41, 42, 43, 44, 45, 46, 47, 48, 49, 50, 51, 52, 53, 54, 55, 56, 57, 58, 59, 60, 61, 62, 63, 64, 65, 66, 67, 68, 69, 70, 71, 72, 73, 74, 75, 76, 77, 78, 79, 80, 81, 82, 83] rfl (by decide +kernel)
set_option maxRecDepth 20000 in
theorem gX12_quarrel_X12_try0 : GoodIn wsX12_quarrel (wsV RX12 240 RX12 yX12_try0 wsX12_try0) := goodIn_app (goodIn_of _ (by decide +kernel)) ggX12_quarrel_X12_try0
theorem dX12_quarrel_0 : decode cX12_quarrel 0 = .ok (.aload_n 0, 1) := by decide +kernel
theorem dX12_quarrel_1 : decode cX12_quarrel 1 = .ok (.iconst 0, 1) := by decide +kernel
theorem dX12_quarrel_2 : decode cX12_quarrel 2 = .ok (.putfield 70, 3) := by decide +kernel
theorem dX12_quarrel_5 : decode cX12_quarrel 5 = .ok (.aload_n 0, 1) := by decide +kernel
theorem dX12_quarrel_6 : decode cX12_quarrel 6 = .ok (.invokevirtual 240, 3) := by decide +kernel
theorem dX12_quarrel_9 : decode cX12_quarrel 9 = .ok (.ireturn, 1) := by decide +kernel
set_option maxRecDepth 20000 in
theorem ggX12_quarrelled_X12_try0 : GoodIn wsX12_quarrelled wsX12_try0 := goodIn_r _ [7, 8, 9, 10, 2, 11, 12, 13, 6, 14, 15, 16, 17, 18, 19, 20, 21, 22, 23, 24, 25, 26, 27, 28, 29, 30, 31, 32, 33, 34, 35, 36, 37, 38, 39, 40, 41, 42, 43, 44, 45, 46, 47, 48, 49, 50, 51, 52, 53, 54, 55, 56, 57, 58, 59, 60, 61, 62, 63, 64, 65, 66, 67, 68, 69, 70, 71, 72, 73, 74, 75, 76, 77, 78, 79, 80, 81, 82, 83] rfl (by decide +kernel)
set_option maxRecDepth 20000 in
theorem gX12_quarrelled_X12_try0 : GoodIn wsX12_quarrelled (wsV RX12 240 RX12 yX12_try0 wsX12_try0) := goodIn_app (goodIn_of _ (by decide +kernel)) ggX12_quarrelled_X12_try0
theorem dX12_quarrelled_0 : decode cX12_quarrelled 0 = .ok (.aload_n 0, 1) := by decide +kernel
theorem dX12_quarrelled_1 : decode cX12_quarrelled 1 = .ok (.iconst 0, 1) := by decide +kernel
theorem dX12_quarrelled_2 : decode cX12_quarrelled 2 = .ok (.putfield 70, 3) := by decide +kernel
theorem dX12_quarrelled_5 : decode cX12_quarrelled 5 = .ok (.aload_n 0, 1) := by decide +kernel
theorem dX12_quarrelled_6 : decode cX12_quarrelled 6 = .ok (.invokevirtual 240, 3) := by decide +kernel
theorem dX12_quarrelled_9 : decode cX12_quarrelled 9 = .ok (.istore_n 2, 1) := by decide +kernel
theorem dX12_quarrelled_10 : decode cX12_quarrelled 10 = .ok (.iload_n 1, 1) := by decide +kernel
theorem dX12_quarrelled_11 : decode cX12_quarrelled 11 = .ok (.ifCond .lt 8, 3) := by decide +kernel
theorem dX12_quarrelled_14 : decode cX12_quarrelled 14 = .ok (.iload_n 1, 1) := by decide +kernel
theorem dX12_quarrelled_15 : decode cX12_quarrelled 15 = .ok (.iload_n 2, 1) := by decide +kernel
theorem dX12_quarrelled_16 : decode cX12_quarrelled 16 = .ok (.if_icmp .lt 7, 3) := by decide +kernel
theorem dX12_quarrelled_19 : decode cX12_quarrelled 19 = .ok (.iconst (-1), 1) := by decide +kernel
theorem dX12_quarrelled_20 : decode cX12_quarrelled 20 = .ok (.goto 9, 3) := by decide +kernel
theorem dX12_quarrelled_23 : decode cX12_quarrelled 23 = .ok (.aload_n 0, 1) := by decide +kernel
theorem dX12_quarrelled_24 : decode cX12_quarrelled 24 = .ok (.getfield 61, 3) := by decide +kernel
theorem dX12_quarrelled_27 : decode cX12_quarrelled 27 = .ok (.iload_n 1, 1) := by decide +kernel
theorem dX12_quarrelled_28 : decode cX12_quarrelled 28 = .ok (.iaload, 1) := by decide +kernel
theorem dX12_quarrelled_29 : decode cX12_quarrelled 29 = .ok (.ireturn, 1) := by decide +kernel
theorem dX12_bitsOf_0 : decode cX12_bitsOf 0 = .ok (.iconst 0, 1) := by decide +kernel
theorem dX12_bitsOf_1 : decode cX12_bitsOf 1 = .ok (.istore_n 1, 1) := by decide +kernel
theorem dX12_bitsOf_2 : decode cX12_bitsOf 2 = .ok (.iconst 0, 1) := by decide +kernel
theorem dX12_bitsOf_3 : decode cX12_bitsOf 3 = .ok (.istore_n 2, 1) := by decide +kernel
theorem dX12_bitsOf_4 : decode cX12_bitsOf 4 = .ok (.iload_n 2, 1) := by decide +kernel
theorem dX12_bitsOf_5 : decode cX12_bitsOf 5 = .ok (.bipush 6, 2) := by decide +kernel
theorem dX12_bitsOf_7 : decode cX12_bitsOf 7 = .ok (.if_icmp .ge 17, 3) := by decide +kernel
theorem dX12_bitsOf_10 : decode cX12_bitsOf 10 = .ok (.iload_n 1, 1) := by decide +kernel
theorem dX12_bitsOf_11 : decode cX12_bitsOf 11 = .ok (.iload_n 0, 1) := by decide +kernel
theorem dX12_bitsOf_12 : decode cX12_bitsOf 12 = .ok (.iload_n 2, 1) := by decide +kernel
theorem dX12_bitsOf_13 : decode cX12_bitsOf 13 = .ok (.ishr, 1) := by decide +kernel
theorem dX12_bitsOf_14 : decode cX12_bitsOf 14 = .ok (.iconst 1, 1) := by decide +kernel
theorem dX12_bitsOf_15 : decode cX12_bitsOf 15 = .ok (.iand, 1) := by decide +kernel
theorem dX12_bitsOf_16 : decode cX12_bitsOf 16 = .ok (.iadd, 1) := by decide +kernel
theorem dX12_bitsOf_17 : decode cX12_bitsOf 17 = .ok (.istore_n 1, 1) := by decide +kernel
theorem dX12_bitsOf_18 : decode cX12_bitsOf 18 = .ok (.iinc 2 1, 3) := by decide +kernel
theorem dX12_bitsOf_21 : decode cX12_bitsOf 21 = .ok (.goto (-17), 3) := by decide +kernel
theorem dX12_bitsOf_24 : decode cX12_bitsOf 24 = .ok (.iload_n 1, 1) := by decide +kernel
theorem dX12_bitsOf_25 : decode cX12_bitsOf 25 = .ok (.ireturn, 1) := by decide +kernel
set_option maxRecDepth 20000 in
theorem ggX12_leave_X12_hearAll : GoodIn wsX12_leave wsX12_hearAll := goodIn_r _ [7, 8, 49, 50, 51, 52, 53, 54, 55, 56, 57, 58, 59, 60, 61, 62, 63, 64, 65, 66, 67, 68, 69, 70, 71, 72, 73, 74, 75, 76, 77, 78, 79, 80, 81] rfl (by decide +kernel)
set_option maxRecDepth 20000 in
theorem gX12_leave_X12_hearAll : GoodIn wsX12_leave (wsV RX12 224 RX12 yX12_hearAll wsX12_hearAll) := goodIn_app (goodIn_of _ (by decide +kernel)) ggX12_leave_X12_hearAll
set_option maxRecDepth 20000 in
theorem ggX12_leave_X12_bitsOf : GoodIn wsX12_leave wsX12_bitsOf := goodIn_r _ [11] rfl (by decide +kernel)
set_option maxRecDepth 20000 in
theorem gX12_leave_X12_bitsOf : GoodIn wsX12_leave (va_wsS RX12 243 yX12_bitsOf wsX12_bitsOf) := goodIn_app (goodIn_of _ (by decide +kernel)) ggX12_leave_X12_bitsOf
set_option maxRecDepth 20000 in
theorem ggX12_leave_X12_isAgreed : GoodIn wsX12_leave wsX12_isAgreed := goodIn_r _ [15, 16, 17, 18, 6, 19, 20, 21, 22, 8, 23, 24, 25, 26, 27, 28, 29, 30, 31, 32, 33, 34, 35, 36, 37, 38, 39, 40, 41, 42, 43, 44, 45, 46, 47, 48, 49, 50, 51, 52, 53, 54, 55, 56, 57, 58, 59, 60, 61, 62, 63, 64, 65, 66, 67, 68, 69, 70, 71, 72, 73, 74, 75, 76, 77, 78, 79, 80, 81] rfl (by decide +kernel)
set_option maxRecDepth 20000 in
theorem gX12_leave_X12_isAgreed : GoodIn wsX12_leave (wsV RX12 227 RX12 yX12_isAgreed wsX12_isAgreed) := goodIn_app (goodIn_of _ (by decide +kernel)) ggX12_leave_X12_isAgreed
theorem dX12_leave_0 : decode cX12_leave 0 = .ok (.aload_n 0, 1) := by decide +kernel
theorem dX12_leave_1 : decode cX12_leave 1 = .ok (.iconst 0, 1) := by decide +kernel
theorem dX12_leave_2 : decode cX12_leave 2 = .ok (.putfield 70, 3) := by decide +kernel
theorem dX12_leave_5 : decode cX12_leave 5 = .ok (.aload_n 0, 1) := by decide +kernel
theorem dX12_leave_6 : decode cX12_leave 6 = .ok (.invokevirtual 224, 3) := by decide +kernel
theorem dX12_leave_9 : decode cX12_leave 9 = .ok (.aload_n 0, 1) := by decide +kernel
theorem dX12_leave_10 : decode cX12_leave 10 = .ok (.getfield 38, 3) := by decide +kernel
theorem dX12_leave_13 : decode cX12_leave 13 = .ok (.istore_n 1, 1) := by decide +kernel
theorem dX12_leave_14 : decode cX12_leave 14 = .ok (.iconst 0, 1) := by decide +kernel
theorem dX12_leave_15 : decode cX12_leave 15 = .ok (.istore_n 2, 1) := by decide +kernel
theorem dX12_leave_16 : decode cX12_leave 16 = .ok (.iload_n 2, 1) := by decide +kernel
theorem dX12_leave_17 : decode cX12_leave 17 = .ok (.bipush 64, 2) := by decide +kernel
theorem dX12_leave_19 : decode cX12_leave 19 = .ok (.if_icmp .ge 48, 3) := by decide +kernel
theorem dX12_leave_22 : decode cX12_leave 22 = .ok (.iload_n 2, 1) := by decide +kernel
theorem dX12_leave_23 : decode cX12_leave 23 = .ok (.aload_n 0, 1) := by decide +kernel
theorem dX12_leave_24 : decode cX12_leave 24 = .ok (.getfield 38, 3) := by decide +kernel
theorem dX12_leave_27 : decode cX12_leave 27 = .ok (.iconst (-1), 1) := by decide +kernel
theorem dX12_leave_28 : decode cX12_leave 28 = .ok (.ixor, 1) := by decide +kernel
theorem dX12_leave_29 : decode cX12_leave 29 = .ok (.iand, 1) := by decide +kernel
theorem dX12_leave_30 : decode cX12_leave 30 = .ok (.ifCond .ne 31, 3) := by decide +kernel
theorem dX12_leave_33 : decode cX12_leave 33 = .ok (.iload_n 2, 1) := by decide +kernel
theorem dX12_leave_34 : decode cX12_leave 34 = .ok (.invokestatic 243, 3) := by decide +kernel
theorem dX12_leave_37 : decode cX12_leave 37 = .ok (.iload_n 1, 1) := by decide +kernel
theorem dX12_leave_38 : decode cX12_leave 38 = .ok (.invokestatic 243, 3) := by decide +kernel
theorem dX12_leave_41 : decode cX12_leave 41 = .ok (.if_icmp .ge 20, 3) := by decide +kernel
theorem dX12_leave_44 : decode cX12_leave 44 = .ok (.aload_n 0, 1) := by decide +kernel
theorem dX12_leave_45 : decode cX12_leave 45 = .ok (.aload_n 0, 1) := by decide +kernel
theorem dX12_leave_46 : decode cX12_leave 46 = .ok (.getfield 38, 3) := by decide +kernel
theorem dX12_leave_49 : decode cX12_leave 49 = .ok (.iload_n 2, 1) := by decide +kernel
theorem dX12_leave_50 : decode cX12_leave 50 = .ok (.iconst (-1), 1) := by decide +kernel
theorem dX12_leave_51 : decode cX12_leave 51 = .ok (.ixor, 1) := by decide +kernel
theorem dX12_leave_52 : decode cX12_leave 52 = .ok (.iand, 1) := by decide +kernel
theorem dX12_leave_53 : decode cX12_leave 53 = .ok (.invokevirtual 227, 3) := by decide +kernel
theorem dX12_leave_56 : decode cX12_leave 56 = .ok (.ifCond .eq 5, 3) := by decide +kernel
theorem dX12_leave_59 : decode cX12_leave 59 = .ok (.iload_n 2, 1) := by decide +kernel
theorem dX12_leave_60 : decode cX12_leave 60 = .ok (.istore_n 1, 1) := by decide +kernel
theorem dX12_leave_61 : decode cX12_leave 61 = .ok (.iinc 2 1, 3) := by decide +kernel
theorem dX12_leave_64 : decode cX12_leave 64 = .ok (.goto (-48), 3) := by decide +kernel
theorem dX12_leave_67 : decode cX12_leave 67 = .ok (.iload_n 1, 1) := by decide +kernel
theorem dX12_leave_68 : decode cX12_leave 68 = .ok (.ireturn, 1) := by decide +kernel
set_option maxRecDepth 20000 in
theorem ggX12_needless_X12_isTeller : GoodIn wsX12_needless wsX12_isTeller := goodIn_r _ [11] rfl (by decide +kernel)
set_option maxRecDepth 20000 in
theorem gX12_needless_X12_isTeller : GoodIn wsX12_needless (va_wsS RX12 187 yX12_isTeller wsX12_isTeller) := goodIn_app (goodIn_of _ (by decide +kernel)) ggX12_needless_X12_isTeller
set_option maxRecDepth 20000 in
theorem ggX12_needless_X12_refuse : GoodIn wsX12_needless wsX12_refuse := goodIn_r _ [15, 1, 65, 66, 67, 68, 69, 70, 71, 72, 73, 74, 75, 76, 77, 78, 79, 80, 81, 82, 83, 84, 85, 86, 87, 88, 89, 90, 91, 92, 93, 94, 95, 96, 97] rfl (by decide +kernel)
set_option maxRecDepth 20000 in
theorem gX12_needless_X12_refuse : GoodIn wsX12_needless (wsV RX12 190 RX12 yX12_refuse wsX12_refuse) := goodIn_app (goodIn_of _ (by decide +kernel)) ggX12_needless_X12_refuse
set_option maxRecDepth 20000 in
theorem ggX12_needless_X12_isSaying : GoodIn wsX12_needless wsX12_isSaying := goodIn_r _ [19, 20, 65, 66, 67, 68, 69, 70, 71, 72, 73, 74, 75, 76, 77, 78, 79, 80, 81, 82, 83, 84, 85, 86, 87, 88, 89, 90, 91, 92, 93, 94, 95, 96, 97] rfl (by decide +kernel)
set_option maxRecDepth 20000 in
theorem gX12_needless_X12_isSaying : GoodIn wsX12_needless (wsV RX12 196 RX12 yX12_isSaying wsX12_isSaying) := goodIn_app (goodIn_of _ (by decide +kernel)) ggX12_needless_X12_isSaying
set_option maxRecDepth 20000 in
theorem ggX12_needless_X12_agree : GoodIn wsX12_needless wsX12_agree := goodIn_r _ [24, 1, 2, 25, 26, 27, 10, 28, 3, 29, 30, 31, 32, 33, 34, 35, 36, 4, 37, 20, 38, 39, 40, 41, 5, 6, 7, 42, 43, 44, 45, 46, 47, 48, 49, 50, 51, 52, 53, 54, 55, 56, 57, 58, 59, 60, 65, 66, 67, 68, 69, 70, 71, 72, 73, 74, 75, 76, 77, 78, 79, 80, 81, 82, 83, 84, 85, 86, 87, 88, 89, 90, 91, 92, 93, 94, 95, 96, 97] rfl (by decide +kernel)
set_option maxRecDepth 20000 in
theorem gX12_needless_X12_agree : GoodIn wsX12_needless (wsV RX12 233 RX12 yX12_agree wsX12_agree) := goodIn_app (goodIn_of _ (by decide +kernel)) ggX12_needless_X12_agree
set_option maxRecDepth 20000 in
theorem ggX12_needless_X12_gather : GoodIn wsX12_needless wsX12_gather := goodIn_r _ [36, 4, 37, 20, 3, 38, 39, 40, 10, 41, 5, 6, 7, 42, 43, 44, 45, 46, 47, 48, 49, 50, 51, 52, 53, 54, 65, 66, 67, 68, 69, 70, 71, 72, 73, 74, 75, 76, 77, 78, 79, 80, 81, 82, 83, 84, 85, 86, 87, 88, 89, 90, 91, 92, 93, 94, 95, 96, 97] rfl (by decide +kernel)
set_option maxRecDepth 20000 in
theorem gX12_needless_X12_gather : GoodIn wsX12_needless (wsV RX12 218 RX12 yX12_gather wsX12_gather) := goodIn_app (goodIn_of _ (by decide +kernel)) ggX12_needless_X12_gather
set_option maxRecDepth 20000 in
theorem ggX12_needless_X12_say : GoodIn wsX12_needless wsX12_say := goodIn_r _ [45, 46, 47, 48, 49, 50, 51, 52, 53, 10, 54, 38, 39, 40, 41, 5, 4, 6, 7, 65, 66, 67, 68, 69, 70, 71, 72, 73, 74, 75, 76, 77, 78, 79, 80, 81, 82, 83, 84, 85, 86, 87, 88, 89, 90, 91, 92, 93, 94, 95, 96, 97] rfl (by decide +kernel)
set_option maxRecDepth 20000 in
theorem gX12_needless_X12_say : GoodIn wsX12_needless (wsV RX12 214 RX12 yX12_say wsX12_say) := goodIn_app (goodIn_of _ (by decide +kernel)) ggX12_needless_X12_say
set_option maxRecDepth 20000 in
theorem ggX12_needless_X12_mostOf : GoodIn wsX12_needless wsX12_mostOf := goodIn_r _ [64, 59, 55, 56, 57, 10, 58, 37, 60, 4, 5, 7, 6, 65, 66, 67, 68, 69, 70, 71, 72, 73, 74, 75, 76, 77, 78, 79, 80, 81, 82, 83, 84, 85, 86, 87, 88, 89, 90, 91, 92, 93, 94, 95, 96, 97] rfl (by decide +kernel)
set_option maxRecDepth 20000 in
theorem gX12_needless_X12_mostOf : GoodIn wsX12_needless (wsV RX12 237 RX12 yX12_mostOf wsX12_mostOf) := goodIn_app (goodIn_of _ (by decide +kernel)) ggX12_needless_X12_mostOf
theorem dX12_needless_0 : decode cX12_needless 0 = .ok (.iload_n 1, 1) := by decide +kernel
theorem dX12_needless_1 : decode cX12_needless 1 = .ok (.invokestatic 187, 3) := by decide +kernel
theorem dX12_needless_4 : decode cX12_needless 4 = .ok (.ifCond .ne 9, 3) := by decide +kernel
theorem dX12_needless_7 : decode cX12_needless 7 = .ok (.aload_n 0, 1) := by decide +kernel
theorem dX12_needless_8 : decode cX12_needless 8 = .ok (.iconst 1, 1) := by decide +kernel
theorem dX12_needless_9 : decode cX12_needless 9 = .ok (.invokevirtual 190, 3) := by decide +kernel
theorem dX12_needless_12 : decode cX12_needless 12 = .ok (.ireturn, 1) := by decide +kernel
theorem dX12_needless_13 : decode cX12_needless 13 = .ok (.aload_n 0, 1) := by decide +kernel
theorem dX12_needless_14 : decode cX12_needless 14 = .ok (.iconst 0, 1) := by decide +kernel
theorem dX12_needless_15 : decode cX12_needless 15 = .ok (.putfield 70, 3) := by decide +kernel
theorem dX12_needless_18 : decode cX12_needless 18 = .ok (.aload_n 0, 1) := by decide +kernel
theorem dX12_needless_19 : decode cX12_needless 19 = .ok (.iload_n 1, 1) := by decide +kernel
theorem dX12_needless_20 : decode cX12_needless 20 = .ok (.iload_n 2, 1) := by decide +kernel
theorem dX12_needless_21 : decode cX12_needless 21 = .ok (.invokevirtual 196, 3) := by decide +kernel
theorem dX12_needless_24 : decode cX12_needless 24 = .ok (.ifCond .eq 21, 3) := by decide +kernel
theorem dX12_needless_27 : decode cX12_needless 27 = .ok (.aload_n 0, 1) := by decide +kernel
theorem dX12_needless_28 : decode cX12_needless 28 = .ok (.getfield 38, 3) := by decide +kernel
theorem dX12_needless_31 : decode cX12_needless 31 = .ok (.iload_n 1, 1) := by decide +kernel
theorem dX12_needless_32 : decode cX12_needless 32 = .ok (.ishr, 1) := by decide +kernel
theorem dX12_needless_33 : decode cX12_needless 33 = .ok (.iconst 1, 1) := by decide +kernel
theorem dX12_needless_34 : decode cX12_needless 34 = .ok (.iand, 1) := by decide +kernel
theorem dX12_needless_35 : decode cX12_needless 35 = .ok (.ifCond .eq 10, 3) := by decide +kernel
theorem dX12_needless_38 : decode cX12_needless 38 = .ok (.aload_n 0, 1) := by decide +kernel
theorem dX12_needless_39 : decode cX12_needless 39 = .ok (.invokevirtual 233, 3) := by decide +kernel
theorem dX12_needless_42 : decode cX12_needless 42 = .ok (.ifCond .ne 5, 3) := by decide +kernel
theorem dX12_needless_45 : decode cX12_needless 45 = .ok (.iconst (-1), 1) := by decide +kernel
theorem dX12_needless_46 : decode cX12_needless 46 = .ok (.ireturn, 1) := by decide +kernel
theorem dX12_needless_47 : decode cX12_needless 47 = .ok (.aload_n 0, 1) := by decide +kernel
theorem dX12_needless_48 : decode cX12_needless 48 = .ok (.getfield 54, 3) := by decide +kernel
theorem dX12_needless_51 : decode cX12_needless 51 = .ok (.bipush 12, 2) := by decide +kernel
theorem dX12_needless_53 : decode cX12_needless 53 = .ok (.iload_n 1, 1) := by decide +kernel
theorem dX12_needless_54 : decode cX12_needless 54 = .ok (.imul, 1) := by decide +kernel
theorem dX12_needless_55 : decode cX12_needless 55 = .ok (.iload_n 2, 1) := by decide +kernel
theorem dX12_needless_56 : decode cX12_needless 56 = .ok (.iadd, 1) := by decide +kernel
theorem dX12_needless_57 : decode cX12_needless 57 = .ok (.iconst 1, 1) := by decide +kernel
theorem dX12_needless_58 : decode cX12_needless 58 = .ok (.bastore, 1) := by decide +kernel
theorem dX12_needless_59 : decode cX12_needless 59 = .ok (.aload_n 0, 1) := by decide +kernel
theorem dX12_needless_60 : decode cX12_needless 60 = .ok (.aload_n 0, 1) := by decide +kernel
theorem dX12_needless_61 : decode cX12_needless 61 = .ok (.getfield 38, 3) := by decide +kernel
theorem dX12_needless_64 : decode cX12_needless 64 = .ok (.invokevirtual 218, 3) := by decide +kernel
theorem dX12_needless_67 : decode cX12_needless 67 = .ok (.aload_n 0, 1) := by decide +kernel
theorem dX12_needless_68 : decode cX12_needless 68 = .ok (.getfield 203, 3) := by decide +kernel
theorem dX12_needless_71 : decode cX12_needless 71 = .ok (.istore_n 3, 1) := by decide +kernel
theorem dX12_needless_72 : decode cX12_needless 72 = .ok (.aload_n 0, 1) := by decide +kernel
theorem dX12_needless_73 : decode cX12_needless 73 = .ok (.bipush 12, 2) := by decide +kernel
theorem dX12_needless_75 : decode cX12_needless 75 = .ok (.iload_n 1, 1) := by decide +kernel
theorem dX12_needless_76 : decode cX12_needless 76 = .ok (.imul, 1) := by decide +kernel
theorem dX12_needless_77 : decode cX12_needless 77 = .ok (.iload_n 2, 1) := by decide +kernel
theorem dX12_needless_78 : decode cX12_needless 78 = .ok (.iadd, 1) := by decide +kernel
theorem dX12_needless_79 : decode cX12_needless 79 = .ok (.invokevirtual 214, 3) := by decide +kernel
theorem dX12_needless_82 : decode cX12_needless 82 = .ok (.aload_n 0, 1) := by decide +kernel
theorem dX12_needless_83 : decode cX12_needless 83 = .ok (.getfield 203, 3) := by decide +kernel
theorem dX12_needless_86 : decode cX12_needless 86 = .ok (.istore 4, 2) := by decide +kernel
theorem dX12_needless_88 : decode cX12_needless 88 = .ok (.aload_n 0, 1) := by decide +kernel
theorem dX12_needless_89 : decode cX12_needless 89 = .ok (.iload_n 3, 1) := by decide +kernel
theorem dX12_needless_90 : decode cX12_needless 90 = .ok (.putfield 203, 3) := by decide +kernel
theorem dX12_needless_93 : decode cX12_needless 93 = .ok (.iload_n 3, 1) := by decide +kernel
theorem dX12_needless_94 : decode cX12_needless 94 = .ok (.istore 5, 2) := by decide +kernel
theorem dX12_needless_96 : decode cX12_needless 96 = .ok (.iload 5, 2) := by decide +kernel
theorem dX12_needless_98 : decode cX12_needless 98 = .ok (.iload 4, 2) := by decide +kernel
theorem dX12_needless_100 : decode cX12_needless 100 = .ok (.if_icmp .ge 39, 3) := by decide +kernel
theorem dX12_needless_103 : decode cX12_needless 103 = .ok (.aload_n 0, 1) := by decide +kernel
theorem dX12_needless_104 : decode cX12_needless 104 = .ok (.aload_n 0, 1) := by decide +kernel
theorem dX12_needless_105 : decode cX12_needless 105 = .ok (.getfield 48, 3) := by decide +kernel
theorem dX12_needless_108 : decode cX12_needless 108 = .ok (.iload 5, 2) := by decide +kernel
theorem dX12_needless_110 : decode cX12_needless 110 = .ok (.iaload, 1) := by decide +kernel
theorem dX12_needless_111 : decode cX12_needless 111 = .ok (.aload_n 0, 1) := by decide +kernel
theorem dX12_needless_112 : decode cX12_needless 112 = .ok (.getfield 45, 3) := by decide +kernel
theorem dX12_needless_115 : decode cX12_needless 115 = .ok (.iload 5, 2) := by decide +kernel
theorem dX12_needless_117 : decode cX12_needless 117 = .ok (.iaload, 1) := by decide +kernel
theorem dX12_needless_118 : decode cX12_needless 118 = .ok (.invokevirtual 237, 3) := by decide +kernel
theorem dX12_needless_121 : decode cX12_needless 121 = .ok (.aload_n 0, 1) := by decide +kernel
theorem dX12_needless_122 : decode cX12_needless 122 = .ok (.getfield 51, 3) := by decide +kernel
theorem dX12_needless_125 : decode cX12_needless 125 = .ok (.iload 5, 2) := by decide +kernel
theorem dX12_needless_127 : decode cX12_needless 127 = .ok (.iaload, 1) := by decide +kernel
theorem dX12_needless_128 : decode cX12_needless 128 = .ok (.if_icmp .le 5, 3) := by decide +kernel
theorem dX12_needless_131 : decode cX12_needless 131 = .ok (.iconst 0, 1) := by decide +kernel
theorem dX12_needless_132 : decode cX12_needless 132 = .ok (.ireturn, 1) := by decide +kernel
theorem dX12_needless_133 : decode cX12_needless 133 = .ok (.iinc 5 1, 3) := by decide +kernel
theorem dX12_needless_136 : decode cX12_needless 136 = .ok (.goto (-40), 3) := by decide +kernel
theorem dX12_needless_139 : decode cX12_needless 139 = .ok (.iconst 1, 1) := by decide +kernel
theorem dX12_needless_140 : decode cX12_needless 140 = .ok (.ireturn, 1) := by decide +kernel
theorem dX12_isAhead_0 : decode cX12_isAhead 0 = .ok (.aload_n 0, 1) := by decide +kernel
theorem dX12_isAhead_1 : decode cX12_isAhead 1 = .ok (.getfield 64, 3) := by decide +kernel
theorem dX12_isAhead_4 : decode cX12_isAhead 4 = .ok (.iload_n 1, 1) := by decide +kernel
theorem dX12_isAhead_5 : decode cX12_isAhead 5 = .ok (.iaload, 1) := by decide +kernel
theorem dX12_isAhead_6 : decode cX12_isAhead 6 = .ok (.aload_n 0, 1) := by decide +kernel
theorem dX12_isAhead_7 : decode cX12_isAhead 7 = .ok (.getfield 64, 3) := by decide +kernel
theorem dX12_isAhead_10 : decode cX12_isAhead 10 = .ok (.iload_n 2, 1) := by decide +kernel
theorem dX12_isAhead_11 : decode cX12_isAhead 11 = .ok (.iaload, 1) := by decide +kernel
theorem dX12_isAhead_12 : decode cX12_isAhead 12 = .ok (.if_icmp .eq 24, 3) := by decide +kernel
theorem dX12_isAhead_15 : decode cX12_isAhead 15 = .ok (.aload_n 0, 1) := by decide +kernel
theorem dX12_isAhead_16 : decode cX12_isAhead 16 = .ok (.getfield 64, 3) := by decide +kernel
theorem dX12_isAhead_19 : decode cX12_isAhead 19 = .ok (.iload_n 1, 1) := by decide +kernel
theorem dX12_isAhead_20 : decode cX12_isAhead 20 = .ok (.iaload, 1) := by decide +kernel
theorem dX12_isAhead_21 : decode cX12_isAhead 21 = .ok (.aload_n 0, 1) := by decide +kernel
theorem dX12_isAhead_22 : decode cX12_isAhead 22 = .ok (.getfield 64, 3) := by decide +kernel
theorem dX12_isAhead_25 : decode cX12_isAhead 25 = .ok (.iload_n 2, 1) := by decide +kernel
theorem dX12_isAhead_26 : decode cX12_isAhead 26 = .ok (.iaload, 1) := by decide +kernel
theorem dX12_isAhead_27 : decode cX12_isAhead 27 = .ok (.if_icmp .ge 7, 3) := by decide +kernel
theorem dX12_isAhead_30 : decode cX12_isAhead 30 = .ok (.iconst 1, 1) := by decide +kernel
theorem dX12_isAhead_31 : decode cX12_isAhead 31 = .ok (.goto 4, 3) := by decide +kernel
theorem dX12_isAhead_34 : decode cX12_isAhead 34 = .ok (.iconst 0, 1) := by decide +kernel
theorem dX12_isAhead_35 : decode cX12_isAhead 35 = .ok (.ireturn, 1) := by decide +kernel
theorem dX12_isAhead_36 : decode cX12_isAhead 36 = .ok (.aload_n 0, 1) := by decide +kernel
theorem dX12_isAhead_37 : decode cX12_isAhead 37 = .ok (.getfield 67, 3) := by decide +kernel
theorem dX12_isAhead_40 : decode cX12_isAhead 40 = .ok (.iload_n 1, 1) := by decide +kernel
theorem dX12_isAhead_41 : decode cX12_isAhead 41 = .ok (.iaload, 1) := by decide +kernel
theorem dX12_isAhead_42 : decode cX12_isAhead 42 = .ok (.aload_n 0, 1) := by decide +kernel
theorem dX12_isAhead_43 : decode cX12_isAhead 43 = .ok (.getfield 67, 3) := by decide +kernel
theorem dX12_isAhead_46 : decode cX12_isAhead 46 = .ok (.iload_n 2, 1) := by decide +kernel
theorem dX12_isAhead_47 : decode cX12_isAhead 47 = .ok (.iaload, 1) := by decide +kernel
theorem dX12_isAhead_48 : decode cX12_isAhead 48 = .ok (.if_icmp .eq 26, 3) := by decide +kernel
theorem dX12_isAhead_51 : decode cX12_isAhead 51 = .ok (.aload_n 0, 1) := by decide +kernel
theorem dX12_isAhead_52 : decode cX12_isAhead 52 = .ok (.getfield 67, 3) := by decide +kernel
theorem dX12_isAhead_55 : decode cX12_isAhead 55 = .ok (.iload_n 1, 1) := by decide +kernel
theorem dX12_isAhead_56 : decode cX12_isAhead 56 = .ok (.iaload, 1) := by decide +kernel
theorem dX12_isAhead_57 : decode cX12_isAhead 57 = .ok (.aload_n 0, 1) := by decide +kernel
theorem dX12_isAhead_58 : decode cX12_isAhead 58 = .ok (.getfield 67, 3) := by decide +kernel
theorem dX12_isAhead_61 : decode cX12_isAhead 61 = .ok (.iload_n 2, 1) := by decide +kernel
theorem dX12_isAhead_62 : decode cX12_isAhead 62 = .ok (.iaload, 1) := by decide +kernel
theorem dX12_isAhead_63 : decode cX12_isAhead 63 = .ok (.if_icmp .ge 7, 3) := by decide +kernel
theorem dX12_isAhead_66 : decode cX12_isAhead 66 = .ok (.iconst 1, 1) := by decide +kernel
theorem dX12_isAhead_67 : decode cX12_isAhead 67 = .ok (.goto 17, 3) := by decide +kernel
theorem dX12_isAhead_70 : decode cX12_isAhead 70 = .ok (.iconst 0, 1) := by decide +kernel
theorem dX12_isAhead_71 : decode cX12_isAhead 71 = .ok (.goto 13, 3) := by decide +kernel
theorem dX12_isAhead_74 : decode cX12_isAhead 74 = .ok (.iload_n 1, 1) := by decide +kernel
theorem dX12_isAhead_75 : decode cX12_isAhead 75 = .ok (.iload_n 2, 1) := by decide +kernel
theorem dX12_isAhead_76 : decode cX12_isAhead 76 = .ok (.if_icmp .ge 7, 3) := by decide +kernel
theorem dX12_isAhead_79 : decode cX12_isAhead 79 = .ok (.iconst 1, 1) := by decide +kernel
theorem dX12_isAhead_80 : decode cX12_isAhead 80 = .ok (.goto 4, 3) := by decide +kernel
theorem dX12_isAhead_83 : decode cX12_isAhead 83 = .ok (.iconst 0, 1) := by decide +kernel
theorem dX12_isAhead_84 : decode cX12_isAhead 84 = .ok (.ireturn, 1) := by decide +kernel
set_option maxRecDepth 20000 in
theorem ggX12_at_X12_agree : GoodIn wsX12_at wsX12_agree := goodIn_r _ [9, 1, 10, 11, 12, 13, 8, 14, 15, 16, 17, 18, 19, 20, 21, 22, 23, 24, 2, 25, 26, 27, 28, 29, 30, 31, 32, 33, 34, 35, 36, 37, 38, 39, 40, 41, 42, 43, 44, 45, 46, 47, 48, 49, 50, 51, 60, 61, 62, 63, 64, 65, 66, 67, 68, 69, 70, 71, 72, 73, 74, 75, 76, 77, 78, 79, 80, 81, 82, 83, 84, 85, 86, 87, 88, 89, 90, 91, 92] rfl (by decide +kernel)
set_option maxRecDepth 20000 in
theorem gX12_at_X12_agree : GoodIn wsX12_at (wsV RX12 233 RX12 yX12_agree wsX12_agree) := goodIn_app (goodIn_of _ (by decide +kernel)) ggX12_at_X12_agree
set_option maxRecDepth 20000 in
theorem ggX12_at_X12_mostOf : GoodIn wsX12_at wsX12_mostOf := goodIn_r _ [55, 50, 46, 47, 48, 8, 49, 2, 51, 24, 30, 32, 31, 60, 61, 62, 63, 64, 65, 66, 67, 68, 69, 70, 71, 72, 73, 74, 75, 76, 77, 78, 79, 80, 81, 82, 83, 84, 85, 86, 87, 88, 89, 90, 91, 92] rfl (by decide +kernel)
set_option maxRecDepth 20000 in
theorem gX12_at_X12_mostOf : GoodIn wsX12_at (wsV RX12 237 RX12 yX12_mostOf wsX12_mostOf) := goodIn_app (goodIn_of _ (by decide +kernel)) ggX12_at_X12_mostOf
set_option maxRecDepth 20000 in
theorem ggX12_at_X12_isAhead : GoodIn wsX12_at wsX12_isAhead := goodIn_r _ [59, 3, 4, 60, 61, 62, 63, 64, 65, 66, 67, 68, 69, 70, 71, 72, 73, 74, 75, 76, 77, 78, 79, 80, 81, 82, 83, 84, 85, 86, 87, 88, 89, 90, 91, 92] rfl (by decide +kernel)
set_option maxRecDepth 20000 in
theorem gX12_at_X12_isAhead : GoodIn wsX12_at (wsV RX12 246 RX12 yX12_isAhead wsX12_isAhead) := goodIn_app (goodIn_of _ (by decide +kernel)) ggX12_at_X12_isAhead
theorem dX12_at_0 : decode cX12_at 0 = .ok (.aload_n 0, 1) := by decide +kernel
theorem dX12_at_1 : decode cX12_at 1 = .ok (.iconst 0, 1) := by decide +kernel
theorem dX12_at_2 : decode cX12_at 2 = .ok (.putfield 70, 3) := by decide +kernel
theorem dX12_at_5 : decode cX12_at 5 = .ok (.iload_n 1, 1) := by decide +kernel
theorem dX12_at_6 : decode cX12_at 6 = .ok (.ifCond .lt 18, 3) := by decide +kernel
theorem dX12_at_9 : decode cX12_at 9 = .ok (.iload_n 1, 1) := by decide +kernel
theorem dX12_at_10 : decode cX12_at 10 = .ok (.aload_n 0, 1) := by decide +kernel
theorem dX12_at_11 : decode cX12_at 11 = .ok (.getfield 181, 3) := by decide +kernel
theorem dX12_at_14 : decode cX12_at 14 = .ok (.if_icmp .ge 10, 3) := by decide +kernel
theorem dX12_at_17 : decode cX12_at 17 = .ok (.aload_n 0, 1) := by decide +kernel
theorem dX12_at_18 : decode cX12_at 18 = .ok (.invokevirtual 233, 3) := by decide +kernel
theorem dX12_at_21 : decode cX12_at 21 = .ok (.ifCond .ne 5, 3) := by decide +kernel
theorem dX12_at_24 : decode cX12_at 24 = .ok (.iconst (-1), 1) := by decide +kernel
theorem dX12_at_25 : decode cX12_at 25 = .ok (.ireturn, 1) := by decide +kernel
theorem dX12_at_26 : decode cX12_at 26 = .ok (.iconst 0, 1) := by decide +kernel
theorem dX12_at_27 : decode cX12_at 27 = .ok (.istore_n 2, 1) := by decide +kernel
theorem dX12_at_28 : decode cX12_at 28 = .ok (.iload_n 2, 1) := by decide +kernel
theorem dX12_at_29 : decode cX12_at 29 = .ok (.aload_n 0, 1) := by decide +kernel
theorem dX12_at_30 : decode cX12_at 30 = .ok (.getfield 181, 3) := by decide +kernel
theorem dX12_at_33 : decode cX12_at 33 = .ok (.if_icmp .ge 43, 3) := by decide +kernel
theorem dX12_at_36 : decode cX12_at 36 = .ok (.aload_n 0, 1) := by decide +kernel
theorem dX12_at_37 : decode cX12_at 37 = .ok (.getfield 64, 3) := by decide +kernel
theorem dX12_at_40 : decode cX12_at 40 = .ok (.iload_n 2, 1) := by decide +kernel
theorem dX12_at_41 : decode cX12_at 41 = .ok (.aload_n 0, 1) := by decide +kernel
theorem dX12_at_42 : decode cX12_at 42 = .ok (.iconst 1, 1) := by decide +kernel
theorem dX12_at_43 : decode cX12_at 43 = .ok (.iconst 2, 1) := by decide +kernel
theorem dX12_at_44 : decode cX12_at 44 = .ok (.iload_n 2, 1) := by decide +kernel
theorem dX12_at_45 : decode cX12_at 45 = .ok (.imul, 1) := by decide +kernel
theorem dX12_at_46 : decode cX12_at 46 = .ok (.iadd, 1) := by decide +kernel
theorem dX12_at_47 : decode cX12_at 47 = .ok (.iconst 0, 1) := by decide +kernel
theorem dX12_at_48 : decode cX12_at 48 = .ok (.invokevirtual 237, 3) := by decide +kernel
theorem dX12_at_51 : decode cX12_at 51 = .ok (.ineg, 1) := by decide +kernel
theorem dX12_at_52 : decode cX12_at 52 = .ok (.iastore, 1) := by decide +kernel
theorem dX12_at_53 : decode cX12_at 53 = .ok (.aload_n 0, 1) := by decide +kernel
theorem dX12_at_54 : decode cX12_at 54 = .ok (.getfield 67, 3) := by decide +kernel
theorem dX12_at_57 : decode cX12_at 57 = .ok (.iload_n 2, 1) := by decide +kernel
theorem dX12_at_58 : decode cX12_at 58 = .ok (.aload_n 0, 1) := by decide +kernel
theorem dX12_at_59 : decode cX12_at 59 = .ok (.iconst 2, 1) := by decide +kernel
theorem dX12_at_60 : decode cX12_at 60 = .ok (.iconst 2, 1) := by decide +kernel
theorem dX12_at_61 : decode cX12_at 61 = .ok (.iload_n 2, 1) := by decide +kernel
theorem dX12_at_62 : decode cX12_at 62 = .ok (.imul, 1) := by decide +kernel
theorem dX12_at_63 : decode cX12_at 63 = .ok (.iadd, 1) := by decide +kernel
theorem dX12_at_64 : decode cX12_at 64 = .ok (.iconst 0, 1) := by decide +kernel
theorem dX12_at_65 : decode cX12_at 65 = .ok (.invokevirtual 237, 3) := by decide +kernel
theorem dX12_at_68 : decode cX12_at 68 = .ok (.ineg, 1) := by decide +kernel
theorem dX12_at_69 : decode cX12_at 69 = .ok (.iastore, 1) := by decide +kernel
theorem dX12_at_70 : decode cX12_at 70 = .ok (.iinc 2 1, 3) := by decide +kernel
theorem dX12_at_73 : decode cX12_at 73 = .ok (.goto (-45), 3) := by decide +kernel
theorem dX12_at_76 : decode cX12_at 76 = .ok (.iconst 0, 1) := by decide +kernel
theorem dX12_at_77 : decode cX12_at 77 = .ok (.istore_n 2, 1) := by decide +kernel
theorem dX12_at_78 : decode cX12_at 78 = .ok (.iload_n 2, 1) := by decide +kernel
theorem dX12_at_79 : decode cX12_at 79 = .ok (.aload_n 0, 1) := by decide +kernel
theorem dX12_at_80 : decode cX12_at 80 = .ok (.getfield 181, 3) := by decide +kernel
theorem dX12_at_83 : decode cX12_at 83 = .ok (.if_icmp .ge 55, 3) := by decide +kernel
theorem dX12_at_86 : decode cX12_at 86 = .ok (.iconst 0, 1) := by decide +kernel
theorem dX12_at_87 : decode cX12_at 87 = .ok (.istore_n 3, 1) := by decide +kernel
theorem dX12_at_88 : decode cX12_at 88 = .ok (.iconst 0, 1) := by decide +kernel
theorem dX12_at_89 : decode cX12_at 89 = .ok (.istore 4, 2) := by decide +kernel
theorem dX12_at_91 : decode cX12_at 91 = .ok (.iload 4, 2) := by decide +kernel
theorem dX12_at_93 : decode cX12_at 93 = .ok (.aload_n 0, 1) := by decide +kernel
theorem dX12_at_94 : decode cX12_at 94 = .ok (.getfield 181, 3) := by decide +kernel
theorem dX12_at_97 : decode cX12_at 97 = .ok (.if_icmp .ge 28, 3) := by decide +kernel
theorem dX12_at_100 : decode cX12_at 100 = .ok (.iload 4, 2) := by decide +kernel
theorem dX12_at_102 : decode cX12_at 102 = .ok (.iload_n 2, 1) := by decide +kernel
theorem dX12_at_103 : decode cX12_at 103 = .ok (.if_icmp .eq 16, 3) := by decide +kernel
theorem dX12_at_106 : decode cX12_at 106 = .ok (.aload_n 0, 1) := by decide +kernel
theorem dX12_at_107 : decode cX12_at 107 = .ok (.iload 4, 2) := by decide +kernel
theorem dX12_at_109 : decode cX12_at 109 = .ok (.iload_n 2, 1) := by decide +kernel
theorem dX12_at_110 : decode cX12_at 110 = .ok (.invokevirtual 246, 3) := by decide +kernel
theorem dX12_at_113 : decode cX12_at 113 = .ok (.ifCond .eq 6, 3) := by decide +kernel
theorem dX12_at_116 : decode cX12_at 116 = .ok (.iinc 3 1, 3) := by decide +kernel
theorem dX12_at_119 : decode cX12_at 119 = .ok (.iinc 4 1, 3) := by decide +kernel
theorem dX12_at_122 : decode cX12_at 122 = .ok (.goto (-31), 3) := by decide +kernel
theorem dX12_at_125 : decode cX12_at 125 = .ok (.iload_n 3, 1) := by decide +kernel
theorem dX12_at_126 : decode cX12_at 126 = .ok (.iload_n 1, 1) := by decide +kernel
theorem dX12_at_127 : decode cX12_at 127 = .ok (.if_icmp .ne 5, 3) := by decide +kernel
theorem dX12_at_130 : decode cX12_at 130 = .ok (.iload_n 2, 1) := by decide +kernel
theorem dX12_at_131 : decode cX12_at 131 = .ok (.ireturn, 1) := by decide +kernel
theorem dX12_at_132 : decode cX12_at 132 = .ok (.iinc 2 1, 3) := by decide +kernel
theorem dX12_at_135 : decode cX12_at 135 = .ok (.goto (-57), 3) := by decide +kernel
theorem dX12_at_138 : decode cX12_at 138 = .ok (.iconst (-1), 1) := by decide +kernel
theorem dX12_at_139 : decode cX12_at 139 = .ok (.ireturn, 1) := by decide +kernel
set_option maxRecDepth 20000 in
theorem ggX12_sayings_X12_isTeller : GoodIn wsX12_sayings wsX12_isTeller := goodIn_r _ [6] rfl (by decide +kernel)
set_option maxRecDepth 20000 in
theorem gX12_sayings_X12_isTeller : GoodIn wsX12_sayings (va_wsS RX12 187 yX12_isTeller wsX12_isTeller) := goodIn_app (goodIn_of _ (by decide +kernel)) ggX12_sayings_X12_isTeller
set_option maxRecDepth 20000 in
theorem ggX12_sayings_X12_refuse : GoodIn wsX12_sayings wsX12_refuse := goodIn_r _ [10, 1, 11, 12, 13, 14, 15, 16, 17, 18, 19, 20, 21, 22, 23, 24, 25, 26, 27, 28, 29, 30, 31, 32, 33, 34, 35, 36, 37, 38, 39, 40, 41, 42, 43] rfl (by decide +kernel)
set_option maxRecDepth 20000 in
theorem gX12_sayings_X12_refuse : GoodIn wsX12_sayings (wsV RX12 190 RX12 yX12_refuse wsX12_refuse) := goodIn_app (goodIn_of _ (by decide +kernel)) ggX12_sayings_X12_refuse
theorem dX12_sayings_0 : decode cX12_sayings 0 = .ok (.iload_n 1, 1) := by decide +kernel
theorem dX12_sayings_1 : decode cX12_sayings 1 = .ok (.invokestatic 187, 3) := by decide +kernel
theorem dX12_sayings_4 : decode cX12_sayings 4 = .ok (.ifCond .ne 9, 3) := by decide +kernel
theorem dX12_sayings_7 : decode cX12_sayings 7 = .ok (.aload_n 0, 1) := by decide +kernel
theorem dX12_sayings_8 : decode cX12_sayings 8 = .ok (.iconst 1, 1) := by decide +kernel
theorem dX12_sayings_9 : decode cX12_sayings 9 = .ok (.invokevirtual 190, 3) := by decide +kernel
theorem dX12_sayings_12 : decode cX12_sayings 12 = .ok (.ireturn, 1) := by decide +kernel
theorem dX12_sayings_13 : decode cX12_sayings 13 = .ok (.aload_n 0, 1) := by decide +kernel
theorem dX12_sayings_14 : decode cX12_sayings 14 = .ok (.iconst 0, 1) := by decide +kernel
theorem dX12_sayings_15 : decode cX12_sayings 15 = .ok (.putfield 70, 3) := by decide +kernel
theorem dX12_sayings_18 : decode cX12_sayings 18 = .ok (.aload_n 0, 1) := by decide +kernel
theorem dX12_sayings_19 : decode cX12_sayings 19 = .ok (.getfield 17, 3) := by decide +kernel
theorem dX12_sayings_22 : decode cX12_sayings 22 = .ok (.iload_n 1, 1) := by decide +kernel
theorem dX12_sayings_23 : decode cX12_sayings 23 = .ok (.iaload, 1) := by decide +kernel
theorem dX12_sayings_24 : decode cX12_sayings 24 = .ok (.ireturn, 1) := by decide +kernel
theorem dX12_count_0 : decode cX12_count 0 = .ok (.aload_n 0, 1) := by decide +kernel
theorem dX12_count_1 : decode cX12_count 1 = .ok (.iconst 0, 1) := by decide +kernel
theorem dX12_count_2 : decode cX12_count 2 = .ok (.putfield 70, 3) := by decide +kernel
theorem dX12_count_5 : decode cX12_count 5 = .ok (.iconst 0, 1) := by decide +kernel
theorem dX12_count_6 : decode cX12_count 6 = .ok (.istore_n 2, 1) := by decide +kernel
theorem dX12_count_7 : decode cX12_count 7 = .ok (.iconst 0, 1) := by decide +kernel
theorem dX12_count_8 : decode cX12_count 8 = .ok (.istore_n 3, 1) := by decide +kernel
theorem dX12_count_9 : decode cX12_count 9 = .ok (.iload_n 3, 1) := by decide +kernel
theorem dX12_count_10 : decode cX12_count 10 = .ok (.bipush 6, 2) := by decide +kernel
theorem dX12_count_12 : decode cX12_count 12 = .ok (.if_icmp .ge 18, 3) := by decide +kernel
theorem dX12_count_15 : decode cX12_count 15 = .ok (.iload_n 2, 1) := by decide +kernel
theorem dX12_count_16 : decode cX12_count 16 = .ok (.aload_n 0, 1) := by decide +kernel
theorem dX12_count_17 : decode cX12_count 17 = .ok (.getfield 17, 3) := by decide +kernel
theorem dX12_count_20 : decode cX12_count 20 = .ok (.iload_n 3, 1) := by decide +kernel
theorem dX12_count_21 : decode cX12_count 21 = .ok (.iaload, 1) := by decide +kernel
theorem dX12_count_22 : decode cX12_count 22 = .ok (.iadd, 1) := by decide +kernel
theorem dX12_count_23 : decode cX12_count 23 = .ok (.istore_n 2, 1) := by decide +kernel
theorem dX12_count_24 : decode cX12_count 24 = .ok (.iinc 3 1, 3) := by decide +kernel
theorem dX12_count_27 : decode cX12_count 27 = .ok (.goto (-18), 3) := by decide +kernel
theorem dX12_count_30 : decode cX12_count 30 = .ok (.iload_n 1, 1) := by decide +kernel
theorem dX12_count_31 : decode cX12_count 31 = .ok (.tableswitch 55 0 4 #[33, 38, 40, 45, 50], 33) := by decide +kernel
theorem dX12_count_64 : decode cX12_count 64 = .ok (.aload_n 0, 1) := by decide +kernel
theorem dX12_count_65 : decode cX12_count 65 = .ok (.getfield 181, 3) := by decide +kernel
theorem dX12_count_68 : decode cX12_count 68 = .ok (.ireturn, 1) := by decide +kernel
theorem dX12_count_69 : decode cX12_count 69 = .ok (.iload_n 2, 1) := by decide +kernel
theorem dX12_count_70 : decode cX12_count 70 = .ok (.ireturn, 1) := by decide +kernel
theorem dX12_count_71 : decode cX12_count 71 = .ok (.aload_n 0, 1) := by decide +kernel
theorem dX12_count_72 : decode cX12_count 72 = .ok (.getfield 38, 3) := by decide +kernel
theorem dX12_count_75 : decode cX12_count 75 = .ok (.ireturn, 1) := by decide +kernel
theorem dX12_count_76 : decode cX12_count 76 = .ok (.aload_n 0, 1) := by decide +kernel
theorem dX12_count_77 : decode cX12_count 77 = .ok (.getfield 73, 3) := by decide +kernel
theorem dX12_count_80 : decode cX12_count 80 = .ok (.ireturn, 1) := by decide +kernel
theorem dX12_count_81 : decode cX12_count 81 = .ok (.aload_n 0, 1) := by decide +kernel
theorem dX12_count_82 : decode cX12_count 82 = .ok (.getfield 200, 3) := by decide +kernel
theorem dX12_count_85 : decode cX12_count 85 = .ok (.ireturn, 1) := by decide +kernel
theorem dX12_count_86 : decode cX12_count 86 = .ok (.iconst (-1), 1) := by decide +kernel
theorem dX12_count_87 : decode cX12_count 87 = .ok (.ireturn, 1) := by decide +kernel
