set_option maxRecDepth 20000 in
theorem ggX1_init_X4_init : GoodIn wsX1_init wsX4_init := goodIn_r _ [26, 27, 2, 3, 28, 9, 10, 29, 14, 30, 31, 32, 33, 34, 35, 36, 37, 38, 39, 40, 58, 59, 60, 61, 62, 42, 43, 44] rfl (by decide +kernel)
set_option maxRecDepth 20000 in
theorem gX1_init_X4_init_n11 : GoodIn wsX1_init (wsX4_init) := ggX1_init_X4_init
set_option maxRecDepth 20000 in
theorem ggX1_init_X2_init : GoodIn wsX1_init wsX2_init := goodIn_r _ [34, 35, 2, 3, 36, 37, 14, 38, 39, 40, 58, 59, 60, 61, 62] rfl (by decide +kernel)
set_option maxRecDepth 20000 in
theorem gX1_init_X2_init : GoodIn wsX1_init (wsX2_init) := ggX1_init_X2_init
theorem dX1_init_0 : decode cX1_init 0 = .ok (.aload_n 0, 1) := by decide +kernel
theorem dX1_init_1 : decode cX1_init 1 = .ok (.invokespecial 3, 3) := by decide +kernel
theorem dX1_init_4 : decode cX1_init 4 = .ok (.aload_n 0, 1) := by decide +kernel
theorem dX1_init_5 : decode cX1_init 5 = .ok (.new 9, 3) := by decide +kernel
theorem dX1_init_8 : decode cX1_init 8 = .ok (.dup, 1) := by decide +kernel
theorem dX1_init_9 : decode cX1_init 9 = .ok (.invokespecial 11, 3) := by decide +kernel
theorem dX1_init_12 : decode cX1_init 12 = .ok (.putfield 12, 3) := by decide +kernel
theorem dX1_init_15 : decode cX1_init 15 = .ok (.aload_n 0, 1) := by decide +kernel
theorem dX1_init_16 : decode cX1_init 16 = .ok (.new 18, 3) := by decide +kernel
theorem dX1_init_19 : decode cX1_init 19 = .ok (.dup, 1) := by decide +kernel
theorem dX1_init_20 : decode cX1_init 20 = .ok (.iconst 4, 1) := by decide +kernel
theorem dX1_init_21 : decode cX1_init 21 = .ok (.invokespecial 20, 3) := by decide +kernel
theorem dX1_init_24 : decode cX1_init 24 = .ok (.putfield 23, 3) := by decide +kernel
theorem dX1_init_27 : decode cX1_init 27 = .ok (.aload_n 0, 1) := by decide +kernel
theorem dX1_init_28 : decode cX1_init 28 = .ok (.bipush 72, 2) := by decide +kernel
theorem dX1_init_30 : decode cX1_init 30 = .ok (.newarray .boolean, 2) := by decide +kernel
theorem dX1_init_32 : decode cX1_init 32 = .ok (.putfield 27, 3) := by decide +kernel
theorem dX1_init_35 : decode cX1_init 35 = .ok (.aload_n 0, 1) := by decide +kernel
theorem dX1_init_36 : decode cX1_init 36 = .ok (.bipush 72, 2) := by decide +kernel
theorem dX1_init_38 : decode cX1_init 38 = .ok (.newarray .int, 2) := by decide +kernel
theorem dX1_init_40 : decode cX1_init 40 = .ok (.putfield 31, 3) := by decide +kernel
theorem dX1_init_43 : decode cX1_init 43 = .ok (.aload_n 0, 1) := by decide +kernel
theorem dX1_init_44 : decode cX1_init 44 = .ok (.bipush 20, 2) := by decide +kernel
theorem dX1_init_46 : decode cX1_init 46 = .ok (.newarray .int, 2) := by decide +kernel
theorem dX1_init_48 : decode cX1_init 48 = .ok (.putfield 35, 3) := by decide +kernel
theorem dX1_init_51 : decode cX1_init 51 = .ok (.aload_n 0, 1) := by decide +kernel
theorem dX1_init_52 : decode cX1_init 52 = .ok (.bipush 63, 2) := by decide +kernel
theorem dX1_init_54 : decode cX1_init 54 = .ok (.putfield 38, 3) := by decide +kernel
theorem dX1_init_57 : decode cX1_init 57 = .ok (.aload_n 0, 1) := by decide +kernel
theorem dX1_init_58 : decode cX1_init 58 = .ok (.iconst 0, 1) := by decide +kernel
theorem dX1_init_59 : decode cX1_init 59 = .ok (.putfield 42, 3) := by decide +kernel
theorem dX1_init_62 : decode cX1_init 62 = .ok (.aload_n 0, 1) := by decide +kernel
theorem dX1_init_63 : decode cX1_init 63 = .ok (.iconst 0, 1) := by decide +kernel
theorem dX1_init_64 : decode cX1_init 64 = .ok (.putfield 45, 3) := by decide +kernel
theorem dX1_init_67 : decode cX1_init 67 = .ok (.aload_n 0, 1) := by decide +kernel
theorem dX1_init_68 : decode cX1_init 68 = .ok (.iconst 0, 1) := by decide +kernel
theorem dX1_init_69 : decode cX1_init 69 = .ok (.putfield 49, 3) := by decide +kernel
theorem dX1_init_72 : decode cX1_init 72 = .ok (.aload_n 0, 1) := by decide +kernel
theorem dX1_init_73 : decode cX1_init 73 = .ok (.iconst 0, 1) := by decide +kernel
theorem dX1_init_74 : decode cX1_init 74 = .ok (.putfield 52, 3) := by decide +kernel
theorem dX1_init_77 : decode cX1_init 77 = .ok (.aload_n 0, 1) := by decide +kernel
theorem dX1_init_78 : decode cX1_init 78 = .ok (.iconst 0, 1) := by decide +kernel
theorem dX1_init_79 : decode cX1_init 79 = .ok (.putfield 55, 3) := by decide +kernel
theorem dX1_init_82 : decode cX1_init 82 = .ok (.aload_n 0, 1) := by decide +kernel
theorem dX1_init_83 : decode cX1_init 83 = .ok (.aload_n 1, 1) := by decide +kernel
theorem dX1_init_84 : decode cX1_init 84 = .ok (.putfield 58, 3) := by decide +kernel
theorem dX1_init_87 : decode cX1_init 87 = .ok (.aload_n 0, 1) := by decide +kernel
theorem dX1_init_88 : decode cX1_init 88 = .ok (.aload_n 2, 1) := by decide +kernel
theorem dX1_init_89 : decode cX1_init 89 = .ok (.putfield 62, 3) := by decide +kernel
theorem dX1_init_92 : decode cX1_init 92 = .ok (.return_, 1) := by decide +kernel
theorem dX1_forget_0 : decode cX1_forget 0 = .ok (.aload_n 0, 1) := by decide +kernel
theorem dX1_forget_1 : decode cX1_forget 1 = .ok (.iconst 0, 1) := by decide +kernel
theorem dX1_forget_2 : decode cX1_forget 2 = .ok (.putfield 45, 3) := by decide +kernel
theorem dX1_forget_5 : decode cX1_forget 5 = .ok (.aload_n 0, 1) := by decide +kernel
theorem dX1_forget_6 : decode cX1_forget 6 = .ok (.iconst 0, 1) := by decide +kernel
theorem dX1_forget_7 : decode cX1_forget 7 = .ok (.putfield 52, 3) := by decide +kernel
theorem dX1_forget_10 : decode cX1_forget 10 = .ok (.aload_n 0, 1) := by decide +kernel
theorem dX1_forget_11 : decode cX1_forget 11 = .ok (.iconst 0, 1) := by decide +kernel
theorem dX1_forget_12 : decode cX1_forget 12 = .ok (.putfield 55, 3) := by decide +kernel
theorem dX1_forget_15 : decode cX1_forget 15 = .ok (.return_, 1) := by decide +kernel
theorem dX1_hears_0 : decode cX1_hears 0 = .ok (.aload_n 0, 1) := by decide +kernel
theorem dX1_hears_1 : decode cX1_hears 1 = .ok (.getfield 38, 3) := by decide +kernel
theorem dX1_hears_4 : decode cX1_hears 4 = .ok (.iload_n 1, 1) := by decide +kernel
theorem dX1_hears_5 : decode cX1_hears 5 = .ok (.ishr, 1) := by decide +kernel
theorem dX1_hears_6 : decode cX1_hears 6 = .ok (.iconst 1, 1) := by decide +kernel
theorem dX1_hears_7 : decode cX1_hears 7 = .ok (.iand, 1) := by decide +kernel
theorem dX1_hears_8 : decode cX1_hears 8 = .ok (.iconst 1, 1) := by decide +kernel
theorem dX1_hears_9 : decode cX1_hears 9 = .ok (.if_icmp .ne 7, 3) := by decide +kernel
theorem dX1_hears_12 : decode cX1_hears 12 = .ok (.iconst 1, 1) := by decide +kernel
theorem dX1_hears_13 : decode cX1_hears 13 = .ok (.goto 4, 3) := by decide +kernel
theorem dX1_hears_16 : decode cX1_hears 16 = .ok (.iconst 0, 1) := by decide +kernel
theorem dX1_hears_17 : decode cX1_hears 17 = .ok (.ireturn, 1) := by decide +kernel
set_option maxRecDepth 20000 in
theorem ggX1_hasWay_X1_isWayFor : GoodIn wsX1_hasWay wsX1_isWayFor := goodIn_r _ [8, 9, 10, 11, 12, 7, 13, 14, 15, 16, 17, 18, 19, 20, 21, 22, 23, 24, 25, 26, 27, 28, 29, 30, 31, 32, 33, 34, 35, 36, 37, 38, 39, 40, 41, 42, 43, 44, 45, 46, 47, 48, 49, 50, 51, 52, 53, 54, 55, 56, 57, 58, 59, 60, 61, 62, 63, 64, 65, 66, 67, 68, 69, 70, 71, 72, 73, 74, 75, 76, 77, 78, 79, 80, 81, 82, 83, 84, 85, 86, 87, 88, 89, 90, 91, 92, 93, 94, 95, 96, 97, 98, 99, 100, 101, 102, 103, 104, 105, 106, 107, 108, 109, 110, 111, 112, 113, 114, 115, 116, 117, 118, 119, 120, 121, 122] rfl (by decide +kernel)
set_option maxRecDepth 20000 in
theorem gX1_hasWay_X1_isWayFor : GoodIn wsX1_hasWay (wsV RX1 66 RX1 yX1_isWayFor wsX1_isWayFor) := goodIn_app (goodIn_of _ (by decide +kernel)) ggX1_hasWay_X1_isWayFor
theorem dX1_hasWay_0 : decode cX1_hasWay 0 = .ok (.aload_n 0, 1) := by decide +kernel
theorem dX1_hasWay_1 : decode cX1_hasWay 1 = .ok (.getfield 45, 3) := by decide +kernel
theorem dX1_hasWay_4 : decode cX1_hasWay 4 = .ok (.ifCond .ne 20, 3) := by decide +kernel
theorem dX1_hasWay_7 : decode cX1_hasWay 7 = .ok (.aload_n 0, 1) := by decide +kernel
theorem dX1_hasWay_8 : decode cX1_hasWay 8 = .ok (.aload_n 0, 1) := by decide +kernel
theorem dX1_hasWay_9 : decode cX1_hasWay 9 = .ok (.aload_n 0, 1) := by decide +kernel
theorem dX1_hasWay_10 : decode cX1_hasWay 10 = .ok (.getfield 38, 3) := by decide +kernel
theorem dX1_hasWay_13 : decode cX1_hasWay 13 = .ok (.invokevirtual 66, 3) := by decide +kernel
theorem dX1_hasWay_16 : decode cX1_hasWay 16 = .ok (.putfield 49, 3) := by decide +kernel
theorem dX1_hasWay_19 : decode cX1_hasWay 19 = .ok (.aload_n 0, 1) := by decide +kernel
theorem dX1_hasWay_20 : decode cX1_hasWay 20 = .ok (.iconst 1, 1) := by decide +kernel
theorem dX1_hasWay_21 : decode cX1_hasWay 21 = .ok (.putfield 45, 3) := by decide +kernel
theorem dX1_hasWay_24 : decode cX1_hasWay 24 = .ok (.aload_n 0, 1) := by decide +kernel
theorem dX1_hasWay_25 : decode cX1_hasWay 25 = .ok (.getfield 49, 3) := by decide +kernel
theorem dX1_hasWay_28 : decode cX1_hasWay 28 = .ok (.ireturn, 1) := by decide +kernel
set_option maxRecDepth 20000 in
theorem ggX1_least_X1_gather : GoodIn wsX1_least wsX1_gather := goodIn_r _ [8, 2, 9, 10, 11, 12, 13, 14, 15, 16, 17, 18, 19, 20, 21, 22, 23, 24, 25, 26, 27, 28, 29, 30, 31, 32, 33, 34, 35, 36, 37, 38, 39, 40, 41, 42, 43, 44, 45, 7, 46, 47, 48, 49, 50, 51, 52, 53, 54, 55, 56, 57, 58, 59, 60, 61, 62, 63, 64, 65, 66, 67, 68, 69, 70, 71, 85, 86, 87, 88, 89, 90, 91, 92, 93, 94, 95, 96, 97, 101, 102, 103, 104, 105, 106, 98, 99, 100, 107, 108, 109, 110, 111, 112, 113, 114, 115, 116, 117] rfl (by decide +kernel)
set_option maxRecDepth 20000 in
theorem gX1_least_X1_gather : GoodIn wsX1_least (wsV RX1 70 RX1 yX1_gather wsX1_gather) := goodIn_app (goodIn_of _ (by decide +kernel)) ggX1_least_X1_gather
set_option maxRecDepth 20000 in
theorem ggX1_least_X4_measureFrom : GoodIn wsX1_least wsX4_measureFrom := goodIn_r _ [75, 25, 76, 77, 78, 79, 80, 19, 81, 26, 27, 82, 83, 84, 98, 99, 100, 107, 108, 109, 110, 111] rfl (by decide +kernel)
set_option maxRecDepth 20000 in
theorem gX1_least_X4_measureFrom : GoodIn wsX1_least (wsV RX1 73 RX4 yX4_measureFrom wsX4_measureFrom) := goodIn_app (goodIn_of _ (by decide +kernel)) ggX1_least_X4_measureFrom
theorem dX1_least_0 : decode cX1_least 0 = .ok (.aload_n 0, 1) := by decide +kernel
theorem dX1_least_1 : decode cX1_least 1 = .ok (.aload_n 0, 1) := by decide +kernel
theorem dX1_least_2 : decode cX1_least 2 = .ok (.getfield 38, 3) := by decide +kernel
theorem dX1_least_5 : decode cX1_least 5 = .ok (.invokevirtual 70, 3) := by decide +kernel
theorem dX1_least_8 : decode cX1_least 8 = .ok (.aload_n 0, 1) := by decide +kernel
theorem dX1_least_9 : decode cX1_least 9 = .ok (.getfield 12, 3) := by decide +kernel
theorem dX1_least_12 : decode cX1_least 12 = .ok (.iload_n 1, 1) := by decide +kernel
theorem dX1_least_13 : decode cX1_least 13 = .ok (.invokevirtual 73, 3) := by decide +kernel
theorem dX1_least_16 : decode cX1_least 16 = .ok (.pop, 1) := by decide +kernel
theorem dX1_least_17 : decode cX1_least 17 = .ok (.aload_n 0, 1) := by decide +kernel
theorem dX1_least_18 : decode cX1_least 18 = .ok (.getfield 12, 3) := by decide +kernel
theorem dX1_least_21 : decode cX1_least 21 = .ok (.getfield 76, 3) := by decide +kernel
theorem dX1_least_24 : decode cX1_least 24 = .ok (.iload_n 2, 1) := by decide +kernel
theorem dX1_least_25 : decode cX1_least 25 = .ok (.iaload, 1) := by decide +kernel
theorem dX1_least_26 : decode cX1_least 26 = .ok (.ireturn, 1) := by decide +kernel
set_option maxRecDepth 20000 in
theorem ggX1_greatest_X1_least : GoodIn wsX1_greatest wsX1_least := goodIn_r _ [5, 6, 7, 8, 9, 10, 11, 4, 12, 13, 14, 15, 16, 17, 18, 19, 20, 21, 22, 23, 24, 25, 26, 27, 28, 29, 30, 31, 32, 33, 34, 35, 36, 37, 38, 39, 40, 41, 42, 43, 44, 45, 46, 47, 48, 49, 50, 51, 52, 53, 54, 55, 56, 57, 58, 59, 60, 61, 62, 63, 64, 65, 66, 67, 68, 69, 70, 71, 72, 73, 74, 75, 76, 77, 78, 79, 80, 81, 82, 83, 84, 85, 86, 87, 88, 89, 90, 91, 92, 93, 94, 95, 96, 97, 98, 99, 100, 101, 102, 103, 104, 105, 106, 107, 108, 109, 110, 111, 112, 113, 114, 115, 116, 117, 118, 119, 120, 121] rfl (by decide +kernel)
set_option maxRecDepth 20000 in
theorem gX1_greatest_X1_least : GoodIn wsX1_greatest (wsV RX1 79 RX1 yX1_least wsX1_least) := goodIn_app (goodIn_of _ (by decide +kernel)) ggX1_greatest_X1_least
theorem dX1_greatest_0 : decode cX1_greatest 0 = .ok (.aload_n 0, 1) := by decide +kernel
theorem dX1_greatest_1 : decode cX1_greatest 1 = .ok (.iload_n 2, 1) := by decide +kernel
theorem dX1_greatest_2 : decode cX1_greatest 2 = .ok (.iload_n 1, 1) := by decide +kernel
theorem dX1_greatest_3 : decode cX1_greatest 3 = .ok (.invokevirtual 79, 3) := by decide +kernel
theorem dX1_greatest_6 : decode cX1_greatest 6 = .ok (.ineg, 1) := by decide +kernel
theorem dX1_greatest_7 : decode cX1_greatest 7 = .ok (.ireturn, 1) := by decide +kernel
set_option maxRecDepth 20000 in
theorem ggX1_isWayFor_X1_gather : GoodIn wsX1_isWayFor wsX1_gather := goodIn_r _ [6, 1, 7, 8, 9, 10, 11, 12, 13, 14, 15, 16, 17, 18, 19, 20, 21, 22, 23, 24, 25, 26, 27, 28, 29, 30, 31, 32, 33, 34, 35, 36, 37, 38, 39, 40, 41, 42, 43, 5, 44, 45, 46, 47, 48, 49, 50, 51, 52, 53, 54, 55, 56, 57, 58, 59, 60, 61, 62, 63, 64, 65, 66, 67, 68, 69, 83, 84, 85, 86, 87, 88, 89, 90, 91, 92, 93, 94, 95, 96, 97, 98, 99, 100, 101, 102, 103, 104, 105, 106, 107, 108, 109, 110, 111, 112, 113, 114, 115] rfl (by decide +kernel)
set_option maxRecDepth 20000 in
theorem gX1_isWayFor_X1_gather : GoodIn wsX1_isWayFor (wsV RX1 70 RX1 yX1_gather wsX1_gather) := goodIn_app (goodIn_of _ (by decide +kernel)) ggX1_isWayFor_X1_gather
set_option maxRecDepth 20000 in
theorem ggX1_isWayFor_X4_measureFrom : GoodIn wsX1_isWayFor wsX4_measureFrom := goodIn_r _ [73, 23, 74, 75, 76, 77, 78, 17, 79, 24, 25, 80, 81, 82, 102, 103, 104, 105, 106, 107, 108, 109] rfl (by decide +kernel)
set_option maxRecDepth 20000 in
theorem gX1_isWayFor_X4_measureFrom : GoodIn wsX1_isWayFor (wsV RX1 73 RX4 yX4_measureFrom wsX4_measureFrom) := goodIn_app (goodIn_of _ (by decide +kernel)) ggX1_isWayFor_X4_measureFrom
theorem dX1_isWayFor_0 : decode cX1_isWayFor 0 = .ok (.aload_n 0, 1) := by decide +kernel
theorem dX1_isWayFor_1 : decode cX1_isWayFor 1 = .ok (.iload_n 1, 1) := by decide +kernel
theorem dX1_isWayFor_2 : decode cX1_isWayFor 2 = .ok (.invokevirtual 70, 3) := by decide +kernel
theorem dX1_isWayFor_5 : decode cX1_isWayFor 5 = .ok (.aload_n 0, 1) := by decide +kernel
theorem dX1_isWayFor_6 : decode cX1_isWayFor 6 = .ok (.getfield 12, 3) := by decide +kernel
theorem dX1_isWayFor_9 : decode cX1_isWayFor 9 = .ok (.iconst 0, 1) := by decide +kernel
theorem dX1_isWayFor_10 : decode cX1_isWayFor 10 = .ok (.invokevirtual 73, 3) := by decide +kernel
theorem dX1_isWayFor_13 : decode cX1_isWayFor 13 = .ok (.ireturn, 1) := by decide +kernel
set_option maxRecDepth 20000 in
theorem ggX1_gather_X4_open : GoodIn wsX1_gather wsX4_open := goodIn_r _ [13, 14, 15, 16, 17, 18, 19, 20, 21, 22, 12, 23, 24, 25, 26, 27, 28, 29, 30, 31, 32, 33, 34, 35, 36, 85, 86, 87, 88, 89, 90, 91, 92] rfl (by decide +kernel)
set_option maxRecDepth 20000 in
theorem gX1_gather_X4_open : GoodIn wsX1_gather (wsV RX1 87 RX4 yX4_open wsX4_open) := goodIn_app (goodIn_of _ (by decide +kernel)) ggX1_gather_X4_open
set_option maxRecDepth 20000 in
theorem ggX1_gather_X1_slot : GoodIn wsX1_gather wsX1_slot := goodIn_r _ [40] rfl (by decide +kernel)
set_option maxRecDepth 20000 in
theorem gX1_gather_X1_slot : GoodIn wsX1_gather (va_wsS RX1 93 yX1_slot wsX1_slot) := goodIn_app (goodIn_of _ (by decide +kernel)) ggX1_gather_X1_slot
set_option maxRecDepth 20000 in
theorem ggX1_gather_X6_putInto : GoodIn wsX1_gather wsX6_putInto := goodIn_r _ [45, 46, 47, 48, 49, 50, 51, 52, 22, 12, 23, 53, 35, 36, 54, 55, 56, 57, 58, 59, 60, 61, 25, 26, 27, 28, 29, 30, 31, 32, 33, 62, 63, 64, 44, 65, 93, 94, 95, 96, 97, 98, 88, 89, 90, 91, 92] rfl (by decide +kernel)
set_option maxRecDepth 20000 in
theorem gX1_gather_X6_putInto : GoodIn wsX1_gather (wsV RX1 103 RX6 yX6_putInto wsX6_putInto) := goodIn_app (goodIn_of _ (by decide +kernel)) ggX1_gather_X6_putInto
theorem dX1_gather_0 : decode cX1_gather 0 = .ok (.aload_n 0, 1) := by decide +kernel
theorem dX1_gather_1 : decode cX1_gather 1 = .ok (.getfield 12, 3) := by decide +kernel
theorem dX1_gather_4 : decode cX1_gather 4 = .ok (.aload_n 0, 1) := by decide +kernel
theorem dX1_gather_5 : decode cX1_gather 5 = .ok (.getfield 62, 3) := by decide +kernel
theorem dX1_gather_8 : decode cX1_gather 8 = .ok (.getfield 82, 3) := by decide +kernel
theorem dX1_gather_11 : decode cX1_gather 11 = .ok (.invokevirtual 87, 3) := by decide +kernel
theorem dX1_gather_14 : decode cX1_gather 14 = .ok (.iconst 0, 1) := by decide +kernel
theorem dX1_gather_15 : decode cX1_gather 15 = .ok (.istore_n 2, 1) := by decide +kernel
theorem dX1_gather_16 : decode cX1_gather 16 = .ok (.iload_n 2, 1) := by decide +kernel
theorem dX1_gather_17 : decode cX1_gather 17 = .ok (.bipush 6, 2) := by decide +kernel
theorem dX1_gather_19 : decode cX1_gather 19 = .ok (.if_icmp .ge 73, 3) := by decide +kernel
theorem dX1_gather_22 : decode cX1_gather 22 = .ok (.iload_n 1, 1) := by decide +kernel
theorem dX1_gather_23 : decode cX1_gather 23 = .ok (.iload_n 2, 1) := by decide +kernel
theorem dX1_gather_24 : decode cX1_gather 24 = .ok (.ishr, 1) := by decide +kernel
theorem dX1_gather_25 : decode cX1_gather 25 = .ok (.iconst 1, 1) := by decide +kernel
theorem dX1_gather_26 : decode cX1_gather 26 = .ok (.iand, 1) := by decide +kernel
theorem dX1_gather_27 : decode cX1_gather 27 = .ok (.iconst 1, 1) := by decide +kernel
theorem dX1_gather_28 : decode cX1_gather 28 = .ok (.if_icmp .ne 58, 3) := by decide +kernel
theorem dX1_gather_31 : decode cX1_gather 31 = .ok (.iconst 0, 1) := by decide +kernel
theorem dX1_gather_32 : decode cX1_gather 32 = .ok (.istore_n 3, 1) := by decide +kernel
theorem dX1_gather_33 : decode cX1_gather 33 = .ok (.iload_n 3, 1) := by decide +kernel
theorem dX1_gather_34 : decode cX1_gather 34 = .ok (.aload_n 0, 1) := by decide +kernel
theorem dX1_gather_35 : decode cX1_gather 35 = .ok (.getfield 58, 3) := by decide +kernel
theorem dX1_gather_38 : decode cX1_gather 38 = .ok (.iload_n 2, 1) := by decide +kernel
theorem dX1_gather_39 : decode cX1_gather 39 = .ok (.aaload, 1) := by decide +kernel
theorem dX1_gather_40 : decode cX1_gather 40 = .ok (.getfield 90, 3) := by decide +kernel
theorem dX1_gather_43 : decode cX1_gather 43 = .ok (.if_icmp .ge 43, 3) := by decide +kernel
theorem dX1_gather_46 : decode cX1_gather 46 = .ok (.aload_n 0, 1) := by decide +kernel
theorem dX1_gather_47 : decode cX1_gather 47 = .ok (.getfield 27, 3) := by decide +kernel
theorem dX1_gather_50 : decode cX1_gather 50 = .ok (.iload_n 2, 1) := by decide +kernel
theorem dX1_gather_51 : decode cX1_gather 51 = .ok (.iload_n 3, 1) := by decide +kernel
theorem dX1_gather_52 : decode cX1_gather 52 = .ok (.invokestatic 93, 3) := by decide +kernel
theorem dX1_gather_55 : decode cX1_gather 55 = .ok (.baload, 1) := by decide +kernel
theorem dX1_gather_56 : decode cX1_gather 56 = .ok (.ifCond .ne 24, 3) := by decide +kernel
theorem dX1_gather_59 : decode cX1_gather 59 = .ok (.aload_n 0, 1) := by decide +kernel
theorem dX1_gather_60 : decode cX1_gather 60 = .ok (.getfield 58, 3) := by decide +kernel
theorem dX1_gather_63 : decode cX1_gather 63 = .ok (.iload_n 2, 1) := by decide +kernel
theorem dX1_gather_64 : decode cX1_gather 64 = .ok (.aaload, 1) := by decide +kernel
theorem dX1_gather_65 : decode cX1_gather 65 = .ok (.getfield 96, 3) := by decide +kernel
theorem dX1_gather_68 : decode cX1_gather 68 = .ok (.iload_n 3, 1) := by decide +kernel
theorem dX1_gather_69 : decode cX1_gather 69 = .ok (.aaload, 1) := by decide +kernel
theorem dX1_gather_70 : decode cX1_gather 70 = .ok (.aload_n 0, 1) := by decide +kernel
theorem dX1_gather_71 : decode cX1_gather 71 = .ok (.getfield 12, 3) := by decide +kernel
theorem dX1_gather_74 : decode cX1_gather 74 = .ok (.getfield 100, 3) := by decide +kernel
theorem dX1_gather_77 : decode cX1_gather 77 = .ok (.invokevirtual 103, 3) := by decide +kernel
theorem dX1_gather_80 : decode cX1_gather 80 = .ok (.iinc 3 1, 3) := by decide +kernel
theorem dX1_gather_83 : decode cX1_gather 83 = .ok (.goto (-50), 3) := by decide +kernel
theorem dX1_gather_86 : decode cX1_gather 86 = .ok (.iinc 2 1, 3) := by decide +kernel
theorem dX1_gather_89 : decode cX1_gather 89 = .ok (.goto (-73), 3) := by decide +kernel
theorem dX1_gather_92 : decode cX1_gather 92 = .ok (.return_, 1) := by decide +kernel
theorem dX1_slot_0 : decode cX1_slot 0 = .ok (.iload_n 0, 1) := by decide +kernel
theorem dX1_slot_1 : decode cX1_slot 1 = .ok (.bipush 12, 2) := by decide +kernel
theorem dX1_slot_3 : decode cX1_slot 3 = .ok (.imul, 1) := by decide +kernel
theorem dX1_slot_4 : decode cX1_slot 4 = .ok (.iload_n 1, 1) := by decide +kernel
theorem dX1_slot_5 : decode cX1_slot 5 = .ok (.iadd, 1) := by decide +kernel
theorem dX1_slot_6 : decode cX1_slot 6 = .ok (.ireturn, 1) := by decide +kernel
set_option maxRecDepth 20000 in
theorem ggX1_findQuarrel_X1_hears : GoodIn wsX1_findQuarrel wsX1_hears := goodIn_r _ [12, 6, 95, 96, 97, 98, 99, 100, 101, 102, 103, 104, 105, 106, 107] rfl (by decide +kernel)
set_option maxRecDepth 20000 in
theorem gX1_findQuarrel_X1_hears : GoodIn wsX1_findQuarrel (wsV RX1 109 RX1 yX1_hears wsX1_hears) := goodIn_app (goodIn_of _ (by decide +kernel)) ggX1_findQuarrel_X1_hears
set_option maxRecDepth 20000 in
theorem ggX1_findQuarrel_X1_slot : GoodIn wsX1_findQuarrel wsX1_slot := goodIn_r _ [15] rfl (by decide +kernel)
set_option maxRecDepth 20000 in
theorem gX1_findQuarrel_X1_slot : GoodIn wsX1_findQuarrel (va_wsS RX1 93 yX1_slot wsX1_slot) := goodIn_app (goodIn_of _ (by decide +kernel)) ggX1_findQuarrel_X1_slot
set_option maxRecDepth 20000 in
theorem ggX1_findQuarrel_X1_isWayFor : GoodIn wsX1_findQuarrel wsX1_isWayFor := goodIn_r _ [19, 20, 21, 22, 23, 11, 24, 25, 26, 3, 4, 5, 27, 28, 29, 30, 31, 32, 33, 34, 35, 36, 37, 38, 39, 40, 41, 42, 43, 44, 45, 46, 47, 48, 49, 50, 51, 52, 53, 54, 55, 56, 13, 14, 15, 57, 58, 59, 60, 61, 62, 63, 64, 65, 66, 67, 68, 69, 70, 71, 72, 73, 74, 75, 76, 77, 78, 79, 80, 81, 82, 83, 84, 85, 86, 87, 88, 89, 90, 91, 92, 93, 94, 95, 96, 97, 98, 99, 100, 101, 102, 103, 104, 105, 106, 107, 110, 111, 112, 113, 108, 109, 114, 115, 116, 117, 118, 119, 120, 121, 122, 123, 124, 125, 126, 127] rfl (by decide +kernel)
set_option maxRecDepth 20000 in
theorem gX1_findQuarrel_X1_isWayFor : GoodIn wsX1_findQuarrel (wsV RX1 66 RX1 yX1_isWayFor wsX1_isWayFor) := goodIn_app (goodIn_of _ (by decide +kernel)) ggX1_findQuarrel_X1_isWayFor
theorem dX1_findQuarrel_0 : decode cX1_findQuarrel 0 = .ok (.aload_n 0, 1) := by decide +kernel
theorem dX1_findQuarrel_1 : decode cX1_findQuarrel 1 = .ok (.getfield 52, 3) := by decide +kernel
theorem dX1_findQuarrel_4 : decode cX1_findQuarrel 4 = .ok (.ifCond .eq 4, 3) := by decide +kernel
theorem dX1_findQuarrel_7 : decode cX1_findQuarrel 7 = .ok (.return_, 1) := by decide +kernel
theorem dX1_findQuarrel_8 : decode cX1_findQuarrel 8 = .ok (.aload_n 0, 1) := by decide +kernel
theorem dX1_findQuarrel_9 : decode cX1_findQuarrel 9 = .ok (.iconst 1, 1) := by decide +kernel
theorem dX1_findQuarrel_10 : decode cX1_findQuarrel 10 = .ok (.putfield 52, 3) := by decide +kernel
theorem dX1_findQuarrel_13 : decode cX1_findQuarrel 13 = .ok (.aload_n 0, 1) := by decide +kernel
theorem dX1_findQuarrel_14 : decode cX1_findQuarrel 14 = .ok (.iconst 0, 1) := by decide +kernel
theorem dX1_findQuarrel_15 : decode cX1_findQuarrel 15 = .ok (.putfield 42, 3) := by decide +kernel
theorem dX1_findQuarrel_18 : decode cX1_findQuarrel 18 = .ok (.iconst 0, 1) := by decide +kernel
theorem dX1_findQuarrel_19 : decode cX1_findQuarrel 19 = .ok (.istore_n 1, 1) := by decide +kernel
theorem dX1_findQuarrel_20 : decode cX1_findQuarrel 20 = .ok (.iload_n 1, 1) := by decide +kernel
theorem dX1_findQuarrel_21 : decode cX1_findQuarrel 21 = .ok (.bipush 6, 2) := by decide +kernel
theorem dX1_findQuarrel_23 : decode cX1_findQuarrel 23 = .ok (.if_icmp .ge 96, 3) := by decide +kernel
theorem dX1_findQuarrel_26 : decode cX1_findQuarrel 26 = .ok (.iconst 0, 1) := by decide +kernel
theorem dX1_findQuarrel_27 : decode cX1_findQuarrel 27 = .ok (.istore_n 2, 1) := by decide +kernel
theorem dX1_findQuarrel_28 : decode cX1_findQuarrel 28 = .ok (.aload_n 0, 1) := by decide +kernel
theorem dX1_findQuarrel_29 : decode cX1_findQuarrel 29 = .ok (.iload_n 1, 1) := by decide +kernel
theorem dX1_findQuarrel_30 : decode cX1_findQuarrel 30 = .ok (.invokevirtual 109, 3) := by decide +kernel
theorem dX1_findQuarrel_33 : decode cX1_findQuarrel 33 = .ok (.ifCond .eq 80, 3) := by decide +kernel
theorem dX1_findQuarrel_36 : decode cX1_findQuarrel 36 = .ok (.iload_n 2, 1) := by decide +kernel
theorem dX1_findQuarrel_37 : decode cX1_findQuarrel 37 = .ok (.aload_n 0, 1) := by decide +kernel
theorem dX1_findQuarrel_38 : decode cX1_findQuarrel 38 = .ok (.getfield 58, 3) := by decide +kernel
theorem dX1_findQuarrel_41 : decode cX1_findQuarrel 41 = .ok (.iload_n 1, 1) := by decide +kernel
theorem dX1_findQuarrel_42 : decode cX1_findQuarrel 42 = .ok (.aaload, 1) := by decide +kernel
theorem dX1_findQuarrel_43 : decode cX1_findQuarrel 43 = .ok (.getfield 90, 3) := by decide +kernel
theorem dX1_findQuarrel_46 : decode cX1_findQuarrel 46 = .ok (.if_icmp .ge 67, 3) := by decide +kernel
theorem dX1_findQuarrel_49 : decode cX1_findQuarrel 49 = .ok (.aload_n 0, 1) := by decide +kernel
theorem dX1_findQuarrel_50 : decode cX1_findQuarrel 50 = .ok (.getfield 27, 3) := by decide +kernel
theorem dX1_findQuarrel_53 : decode cX1_findQuarrel 53 = .ok (.iload_n 1, 1) := by decide +kernel
theorem dX1_findQuarrel_54 : decode cX1_findQuarrel 54 = .ok (.iload_n 2, 1) := by decide +kernel
theorem dX1_findQuarrel_55 : decode cX1_findQuarrel 55 = .ok (.invokestatic 93, 3) := by decide +kernel
theorem dX1_findQuarrel_58 : decode cX1_findQuarrel 58 = .ok (.iconst 1, 1) := by decide +kernel
theorem dX1_findQuarrel_59 : decode cX1_findQuarrel 59 = .ok (.bastore, 1) := by decide +kernel
theorem dX1_findQuarrel_60 : decode cX1_findQuarrel 60 = .ok (.aload_n 0, 1) := by decide +kernel
theorem dX1_findQuarrel_61 : decode cX1_findQuarrel 61 = .ok (.aload_n 0, 1) := by decide +kernel
theorem dX1_findQuarrel_62 : decode cX1_findQuarrel 62 = .ok (.getfield 38, 3) := by decide +kernel
theorem dX1_findQuarrel_65 : decode cX1_findQuarrel 65 = .ok (.invokevirtual 66, 3) := by decide +kernel
theorem dX1_findQuarrel_68 : decode cX1_findQuarrel 68 = .ok (.ifCond .eq 39, 3) := by decide +kernel
theorem dX1_findQuarrel_71 : decode cX1_findQuarrel 71 = .ok (.aload_n 0, 1) := by decide +kernel
theorem dX1_findQuarrel_72 : decode cX1_findQuarrel 72 = .ok (.getfield 27, 3) := by decide +kernel
theorem dX1_findQuarrel_75 : decode cX1_findQuarrel 75 = .ok (.iload_n 1, 1) := by decide +kernel
theorem dX1_findQuarrel_76 : decode cX1_findQuarrel 76 = .ok (.iload_n 2, 1) := by decide +kernel
theorem dX1_findQuarrel_77 : decode cX1_findQuarrel 77 = .ok (.invokestatic 93, 3) := by decide +kernel
theorem dX1_findQuarrel_80 : decode cX1_findQuarrel 80 = .ok (.iconst 0, 1) := by decide +kernel
theorem dX1_findQuarrel_81 : decode cX1_findQuarrel 81 = .ok (.bastore, 1) := by decide +kernel
theorem dX1_findQuarrel_82 : decode cX1_findQuarrel 82 = .ok (.aload_n 0, 1) := by decide +kernel
theorem dX1_findQuarrel_83 : decode cX1_findQuarrel 83 = .ok (.getfield 31, 3) := by decide +kernel
theorem dX1_findQuarrel_86 : decode cX1_findQuarrel 86 = .ok (.aload_n 0, 1) := by decide +kernel
theorem dX1_findQuarrel_87 : decode cX1_findQuarrel 87 = .ok (.getfield 42, 3) := by decide +kernel
theorem dX1_findQuarrel_90 : decode cX1_findQuarrel 90 = .ok (.bipush 100, 2) := by decide +kernel
theorem dX1_findQuarrel_92 : decode cX1_findQuarrel 92 = .ok (.iload_n 1, 1) := by decide +kernel
theorem dX1_findQuarrel_93 : decode cX1_findQuarrel 93 = .ok (.imul, 1) := by decide +kernel
theorem dX1_findQuarrel_94 : decode cX1_findQuarrel 94 = .ok (.iload_n 2, 1) := by decide +kernel
theorem dX1_findQuarrel_95 : decode cX1_findQuarrel 95 = .ok (.iadd, 1) := by decide +kernel
theorem dX1_findQuarrel_96 : decode cX1_findQuarrel 96 = .ok (.iastore, 1) := by decide +kernel
theorem dX1_findQuarrel_97 : decode cX1_findQuarrel 97 = .ok (.aload_n 0, 1) := by decide +kernel
theorem dX1_findQuarrel_98 : decode cX1_findQuarrel 98 = .ok (.dup, 1) := by decide +kernel
theorem dX1_findQuarrel_99 : decode cX1_findQuarrel 99 = .ok (.getfield 42, 3) := by decide +kernel
theorem dX1_findQuarrel_102 : decode cX1_findQuarrel 102 = .ok (.iconst 1, 1) := by decide +kernel
theorem dX1_findQuarrel_103 : decode cX1_findQuarrel 103 = .ok (.iadd, 1) := by decide +kernel
theorem dX1_findQuarrel_104 : decode cX1_findQuarrel 104 = .ok (.putfield 42, 3) := by decide +kernel
theorem dX1_findQuarrel_107 : decode cX1_findQuarrel 107 = .ok (.iinc 2 1, 3) := by decide +kernel
theorem dX1_findQuarrel_110 : decode cX1_findQuarrel 110 = .ok (.goto (-82), 3) := by decide +kernel
theorem dX1_findQuarrel_113 : decode cX1_findQuarrel 113 = .ok (.iinc 1 1, 3) := by decide +kernel
theorem dX1_findQuarrel_116 : decode cX1_findQuarrel 116 = .ok (.goto (-96), 3) := by decide +kernel
theorem dX1_findQuarrel_119 : decode cX1_findQuarrel 119 = .ok (.iconst 0, 1) := by decide +kernel
theorem dX1_findQuarrel_120 : decode cX1_findQuarrel 120 = .ok (.istore_n 1, 1) := by decide +kernel
theorem dX1_findQuarrel_121 : decode cX1_findQuarrel 121 = .ok (.iload_n 1, 1) := by decide +kernel
theorem dX1_findQuarrel_122 : decode cX1_findQuarrel 122 = .ok (.bipush 72, 2) := by decide +kernel
theorem dX1_findQuarrel_124 : decode cX1_findQuarrel 124 = .ok (.if_icmp .ge 16, 3) := by decide +kernel
theorem dX1_findQuarrel_127 : decode cX1_findQuarrel 127 = .ok (.aload_n 0, 1) := by decide +kernel
theorem dX1_findQuarrel_128 : decode cX1_findQuarrel 128 = .ok (.getfield 27, 3) := by decide +kernel
theorem dX1_findQuarrel_131 : decode cX1_findQuarrel 131 = .ok (.iload_n 1, 1) := by decide +kernel
theorem dX1_findQuarrel_132 : decode cX1_findQuarrel 132 = .ok (.iconst 0, 1) := by decide +kernel
theorem dX1_findQuarrel_133 : decode cX1_findQuarrel 133 = .ok (.bastore, 1) := by decide +kernel
theorem dX1_findQuarrel_134 : decode cX1_findQuarrel 134 = .ok (.iinc 1 1, 3) := by decide +kernel
theorem dX1_findQuarrel_137 : decode cX1_findQuarrel 137 = .ok (.goto (-16), 3) := by decide +kernel
theorem dX1_findQuarrel_140 : decode cX1_findQuarrel 140 = .ok (.return_, 1) := by decide +kernel
set_option maxRecDepth 20000 in
theorem ggX1_fewestToLeave_X1_hasWay : GoodIn wsX1_fewestToLeave wsX1_hasWay := goodIn_r _ [6, 7, 1, 8, 9, 10, 11, 5, 12, 13, 14, 15, 16, 17, 18, 19, 20, 21, 22, 23, 24, 25, 26, 27, 28, 29, 30, 31, 32, 33, 34, 35, 36, 37, 38, 39, 40, 41, 42, 43, 44, 45, 46, 47, 48, 49, 50, 51, 52, 53, 54, 55, 56, 57, 58, 59, 60, 61, 62, 63, 64, 65, 66, 67, 68, 69, 70, 71, 72, 73, 74, 75, 76, 77, 78, 79, 80, 81, 82, 83, 84, 85, 86, 87, 88, 89, 90, 91, 92, 93, 101, 102, 103, 104, 105, 106, 107, 108, 109, 110, 111, 112, 113, 114, 115, 116, 117, 118, 119, 120, 121, 122, 123, 124, 125, 126, 127, 128, 129, 130, 131, 132, 133] rfl (by decide +kernel)
set_option maxRecDepth 20000 in
theorem gX1_fewestToLeave_X1_hasWay : GoodIn wsX1_fewestToLeave (wsV RX1 112 RX1 yX1_hasWay wsX1_hasWay) := goodIn_app (goodIn_of _ (by decide +kernel)) ggX1_fewestToLeave_X1_hasWay
set_option maxRecDepth 20000 in
theorem ggX1_fewestToLeave_J6_bitCount_0f7a4 : GoodIn wsX1_fewestToLeave wsJ6_bitCount_0f7a4 := goodIn_r _ [97, 98, 99, 100] rfl (by decide +kernel)
set_option maxRecDepth 20000 in
theorem gX1_fewestToLeave_J6_bitCount_0f7a4 : GoodIn wsX1_fewestToLeave (va_wsS RX1 116 yJ6_bitCount_0f7a4 wsJ6_bitCount_0f7a4) := goodIn_app (goodIn_of _ (by decide +kernel)) ggX1_fewestToLeave_J6_bitCount_0f7a4
set_option maxRecDepth 20000 in
theorem ggX1_fewestToLeave_X1_isWayFor : GoodIn wsX1_fewestToLeave wsX1_isWayFor := goodIn_r _ [12, 13, 14, 15, 16, 5, 17, 18, 19, 20, 21, 22, 23, 24, 25, 26, 27, 28, 29, 30, 31, 32, 33, 34, 35, 36, 37, 38, 39, 40, 41, 42, 43, 44, 45, 46, 47, 48, 49, 50, 51, 52, 53, 54, 55, 56, 57, 58, 59, 60, 61, 62, 63, 64, 65, 66, 67, 68, 69, 70, 71, 72, 73, 74, 75, 76, 77, 78, 79, 80, 81, 82, 83, 84, 85, 86, 87, 88, 89, 90, 91, 92, 93, 101, 102, 103, 104, 105, 106, 107, 108, 109, 110, 111, 112, 113, 114, 115, 116, 117, 118, 119, 120, 121, 122, 123, 124, 125, 126, 127, 128, 129, 130, 131, 132, 133] rfl (by decide +kernel)
set_option maxRecDepth 20000 in
theorem gX1_fewestToLeave_X1_isWayFor : GoodIn wsX1_fewestToLeave (wsV RX1 66 RX1 yX1_isWayFor wsX1_isWayFor) := goodIn_app (goodIn_of _ (by decide +kernel)) ggX1_fewestToLeave_X1_isWayFor
theorem dX1_fewestToLeave_0 : decode cX1_fewestToLeave 0 = .ok (.aload_n 0, 1) := by decide +kernel
theorem dX1_fewestToLeave_1 : decode cX1_fewestToLeave 1 = .ok (.invokevirtual 112, 3) := by decide +kernel
theorem dX1_fewestToLeave_4 : decode cX1_fewestToLeave 4 = .ok (.ifCond .eq 5, 3) := by decide +kernel
theorem dX1_fewestToLeave_7 : decode cX1_fewestToLeave 7 = .ok (.iconst 0, 1) := by decide +kernel
theorem dX1_fewestToLeave_8 : decode cX1_fewestToLeave 8 = .ok (.ireturn, 1) := by decide +kernel
theorem dX1_fewestToLeave_9 : decode cX1_fewestToLeave 9 = .ok (.iconst 1, 1) := by decide +kernel
theorem dX1_fewestToLeave_10 : decode cX1_fewestToLeave 10 = .ok (.istore_n 1, 1) := by decide +kernel
theorem dX1_fewestToLeave_11 : decode cX1_fewestToLeave 11 = .ok (.iload_n 1, 1) := by decide +kernel
theorem dX1_fewestToLeave_12 : decode cX1_fewestToLeave 12 = .ok (.bipush 6, 2) := by decide +kernel
theorem dX1_fewestToLeave_14 : decode cX1_fewestToLeave 14 = .ok (.if_icmp .ge 69, 3) := by decide +kernel
theorem dX1_fewestToLeave_17 : decode cX1_fewestToLeave 17 = .ok (.iconst 1, 1) := by decide +kernel
theorem dX1_fewestToLeave_18 : decode cX1_fewestToLeave 18 = .ok (.istore_n 2, 1) := by decide +kernel
theorem dX1_fewestToLeave_19 : decode cX1_fewestToLeave 19 = .ok (.iload_n 2, 1) := by decide +kernel
theorem dX1_fewestToLeave_20 : decode cX1_fewestToLeave 20 = .ok (.bipush 63, 2) := by decide +kernel
theorem dX1_fewestToLeave_22 : decode cX1_fewestToLeave 22 = .ok (.if_icmp .ge 55, 3) := by decide +kernel
theorem dX1_fewestToLeave_25 : decode cX1_fewestToLeave 25 = .ok (.iload_n 2, 1) := by decide +kernel
theorem dX1_fewestToLeave_26 : decode cX1_fewestToLeave 26 = .ok (.aload_n 0, 1) := by decide +kernel
theorem dX1_fewestToLeave_27 : decode cX1_fewestToLeave 27 = .ok (.getfield 38, 3) := by decide +kernel
theorem dX1_fewestToLeave_30 : decode cX1_fewestToLeave 30 = .ok (.iconst (-1), 1) := by decide +kernel
theorem dX1_fewestToLeave_31 : decode cX1_fewestToLeave 31 = .ok (.ixor, 1) := by decide +kernel
theorem dX1_fewestToLeave_32 : decode cX1_fewestToLeave 32 = .ok (.iand, 1) := by decide +kernel
theorem dX1_fewestToLeave_33 : decode cX1_fewestToLeave 33 = .ok (.ifCond .ne 7, 3) := by decide +kernel
theorem dX1_fewestToLeave_36 : decode cX1_fewestToLeave 36 = .ok (.iconst 1, 1) := by decide +kernel
theorem dX1_fewestToLeave_37 : decode cX1_fewestToLeave 37 = .ok (.goto 4, 3) := by decide +kernel
theorem dX1_fewestToLeave_40 : decode cX1_fewestToLeave 40 = .ok (.iconst 0, 1) := by decide +kernel
theorem dX1_fewestToLeave_41 : decode cX1_fewestToLeave 41 = .ok (.istore_n 3, 1) := by decide +kernel
theorem dX1_fewestToLeave_42 : decode cX1_fewestToLeave 42 = .ok (.iload_n 3, 1) := by decide +kernel
theorem dX1_fewestToLeave_43 : decode cX1_fewestToLeave 43 = .ok (.ifCond .eq 28, 3) := by decide +kernel
theorem dX1_fewestToLeave_46 : decode cX1_fewestToLeave 46 = .ok (.iload_n 2, 1) := by decide +kernel
theorem dX1_fewestToLeave_47 : decode cX1_fewestToLeave 47 = .ok (.invokestatic 116, 3) := by decide +kernel
theorem dX1_fewestToLeave_50 : decode cX1_fewestToLeave 50 = .ok (.iload_n 1, 1) := by decide +kernel
theorem dX1_fewestToLeave_51 : decode cX1_fewestToLeave 51 = .ok (.if_icmp .ne 20, 3) := by decide +kernel
theorem dX1_fewestToLeave_54 : decode cX1_fewestToLeave 54 = .ok (.aload_n 0, 1) := by decide +kernel
theorem dX1_fewestToLeave_55 : decode cX1_fewestToLeave 55 = .ok (.aload_n 0, 1) := by decide +kernel
theorem dX1_fewestToLeave_56 : decode cX1_fewestToLeave 56 = .ok (.getfield 38, 3) := by decide +kernel
theorem dX1_fewestToLeave_59 : decode cX1_fewestToLeave 59 = .ok (.iload_n 2, 1) := by decide +kernel
theorem dX1_fewestToLeave_60 : decode cX1_fewestToLeave 60 = .ok (.iconst (-1), 1) := by decide +kernel
theorem dX1_fewestToLeave_61 : decode cX1_fewestToLeave 61 = .ok (.ixor, 1) := by decide +kernel
theorem dX1_fewestToLeave_62 : decode cX1_fewestToLeave 62 = .ok (.iand, 1) := by decide +kernel
theorem dX1_fewestToLeave_63 : decode cX1_fewestToLeave 63 = .ok (.invokevirtual 66, 3) := by decide +kernel
theorem dX1_fewestToLeave_66 : decode cX1_fewestToLeave 66 = .ok (.ifCond .eq 5, 3) := by decide +kernel
theorem dX1_fewestToLeave_69 : decode cX1_fewestToLeave 69 = .ok (.iload_n 2, 1) := by decide +kernel
theorem dX1_fewestToLeave_70 : decode cX1_fewestToLeave 70 = .ok (.ireturn, 1) := by decide +kernel
theorem dX1_fewestToLeave_71 : decode cX1_fewestToLeave 71 = .ok (.iinc 2 1, 3) := by decide +kernel
theorem dX1_fewestToLeave_74 : decode cX1_fewestToLeave 74 = .ok (.goto (-55), 3) := by decide +kernel
theorem dX1_fewestToLeave_77 : decode cX1_fewestToLeave 77 = .ok (.iinc 1 1, 3) := by decide +kernel
theorem dX1_fewestToLeave_80 : decode cX1_fewestToLeave 80 = .ok (.goto (-69), 3) := by decide +kernel
theorem dX1_fewestToLeave_83 : decode cX1_fewestToLeave 83 = .ok (.aload_n 0, 1) := by decide +kernel
theorem dX1_fewestToLeave_84 : decode cX1_fewestToLeave 84 = .ok (.getfield 38, 3) := by decide +kernel
theorem dX1_fewestToLeave_87 : decode cX1_fewestToLeave 87 = .ok (.ireturn, 1) := by decide +kernel
set_option maxRecDepth 20000 in
theorem ggX1_followsFromOthers_X1_slot : GoodIn wsX1_followsFromOthers wsX1_slot := goodIn_r _ [15] rfl (by decide +kernel)
set_option maxRecDepth 20000 in
theorem gX1_followsFromOthers_X1_slot : GoodIn wsX1_followsFromOthers (va_wsS RX1 93 yX1_slot wsX1_slot) := goodIn_app (goodIn_of _ (by decide +kernel)) ggX1_followsFromOthers_X1_slot
set_option maxRecDepth 20000 in
theorem ggX1_followsFromOthers_X1_gather : GoodIn wsX1_followsFromOthers wsX1_gather := goodIn_r _ [19, 7, 20, 21, 5, 22, 1, 6, 23, 24, 25, 26, 27, 28, 29, 30, 31, 32, 33, 34, 35, 36, 37, 38, 39, 40, 41, 42, 43, 44, 45, 46, 47, 48, 49, 50, 51, 12, 13, 14, 15, 52, 53, 54, 55, 56, 57, 58, 59, 60, 61, 62, 63, 64, 65, 66, 67, 68, 69, 70, 71, 72, 73, 74, 75, 76, 90, 91, 92, 93, 94, 95, 96, 97, 98, 99, 100, 101, 102, 113, 114, 115, 116, 108, 109, 110, 111, 112, 103, 104, 105, 106, 107, 117, 118, 119, 120, 121, 122] rfl (by decide +kernel)
set_option maxRecDepth 20000 in
theorem gX1_followsFromOthers_X1_gather : GoodIn wsX1_followsFromOthers (wsV RX1 70 RX1 yX1_gather wsX1_gather) := goodIn_app (goodIn_of _ (by decide +kernel)) ggX1_followsFromOthers_X1_gather
set_option maxRecDepth 20000 in
theorem ggX1_followsFromOthers_X6_putInto : GoodIn wsX1_followsFromOthers wsX6_putInto := goodIn_r _ [56, 57, 58, 59, 60, 61, 62, 63, 37, 27, 38, 64, 50, 51, 65, 66, 67, 68, 69, 70, 71, 72, 40, 41, 42, 43, 44, 45, 46, 47, 48, 73, 74, 75, 55, 76, 117, 118, 119, 120, 121, 122, 103, 104, 105, 106, 107] rfl (by decide +kernel)
set_option maxRecDepth 20000 in
theorem gX1_followsFromOthers_X6_putInto : GoodIn wsX1_followsFromOthers (wsV RX1 103 RX6 yX6_putInto wsX6_putInto) := goodIn_app (goodIn_of _ (by decide +kernel)) ggX1_followsFromOthers_X6_putInto
set_option maxRecDepth 20000 in
theorem ggX1_followsFromOthers_X4_measureFrom : GoodIn wsX1_followsFromOthers wsX4_measureFrom := goodIn_r _ [80, 33, 81, 82, 83, 84, 85, 27, 86, 34, 35, 87, 88, 89, 110, 111, 112, 103, 104, 105, 106, 107] rfl (by decide +kernel)
set_option maxRecDepth 20000 in
theorem gX1_followsFromOthers_X4_measureFrom : GoodIn wsX1_followsFromOthers (wsV RX1 73 RX4 yX4_measureFrom wsX4_measureFrom) := goodIn_app (goodIn_of _ (by decide +kernel)) ggX1_followsFromOthers_X4_measureFrom
theorem dX1_followsFromOthers_0 : decode cX1_followsFromOthers 0 = .ok (.aload_n 0, 1) := by decide +kernel
theorem dX1_followsFromOthers_1 : decode cX1_followsFromOthers 1 = .ok (.getfield 27, 3) := by decide +kernel
theorem dX1_followsFromOthers_4 : decode cX1_followsFromOthers 4 = .ok (.iload_n 1, 1) := by decide +kernel
theorem dX1_followsFromOthers_5 : decode cX1_followsFromOthers 5 = .ok (.iload_n 2, 1) := by decide +kernel
theorem dX1_followsFromOthers_6 : decode cX1_followsFromOthers 6 = .ok (.invokestatic 93, 3) := by decide +kernel
theorem dX1_followsFromOthers_9 : decode cX1_followsFromOthers 9 = .ok (.iconst 1, 1) := by decide +kernel
theorem dX1_followsFromOthers_10 : decode cX1_followsFromOthers 10 = .ok (.bastore, 1) := by decide +kernel
theorem dX1_followsFromOthers_11 : decode cX1_followsFromOthers 11 = .ok (.aload_n 0, 1) := by decide +kernel
theorem dX1_followsFromOthers_12 : decode cX1_followsFromOthers 12 = .ok (.aload_n 0, 1) := by decide +kernel
theorem dX1_followsFromOthers_13 : decode cX1_followsFromOthers 13 = .ok (.getfield 38, 3) := by decide +kernel
theorem dX1_followsFromOthers_16 : decode cX1_followsFromOthers 16 = .ok (.invokevirtual 70, 3) := by decide +kernel
theorem dX1_followsFromOthers_19 : decode cX1_followsFromOthers 19 = .ok (.aload_n 0, 1) := by decide +kernel
theorem dX1_followsFromOthers_20 : decode cX1_followsFromOthers 20 = .ok (.getfield 27, 3) := by decide +kernel
theorem dX1_followsFromOthers_23 : decode cX1_followsFromOthers 23 = .ok (.iload_n 1, 1) := by decide +kernel
theorem dX1_followsFromOthers_24 : decode cX1_followsFromOthers 24 = .ok (.iload_n 2, 1) := by decide +kernel
theorem dX1_followsFromOthers_25 : decode cX1_followsFromOthers 25 = .ok (.invokestatic 93, 3) := by decide +kernel
theorem dX1_followsFromOthers_28 : decode cX1_followsFromOthers 28 = .ok (.iconst 0, 1) := by decide +kernel
theorem dX1_followsFromOthers_29 : decode cX1_followsFromOthers 29 = .ok (.bastore, 1) := by decide +kernel
theorem dX1_followsFromOthers_30 : decode cX1_followsFromOthers 30 = .ok (.aload_n 0, 1) := by decide +kernel
theorem dX1_followsFromOthers_31 : decode cX1_followsFromOthers 31 = .ok (.getfield 23, 3) := by decide +kernel
theorem dX1_followsFromOthers_34 : decode cX1_followsFromOthers 34 = .ok (.iconst 0, 1) := by decide +kernel
theorem dX1_followsFromOthers_35 : decode cX1_followsFromOthers 35 = .ok (.putfield 122, 3) := by decide +kernel
theorem dX1_followsFromOthers_38 : decode cX1_followsFromOthers 38 = .ok (.aload_n 0, 1) := by decide +kernel
theorem dX1_followsFromOthers_39 : decode cX1_followsFromOthers 39 = .ok (.getfield 58, 3) := by decide +kernel
theorem dX1_followsFromOthers_42 : decode cX1_followsFromOthers 42 = .ok (.iload_n 1, 1) := by decide +kernel
theorem dX1_followsFromOthers_43 : decode cX1_followsFromOthers 43 = .ok (.aaload, 1) := by decide +kernel
theorem dX1_followsFromOthers_44 : decode cX1_followsFromOthers 44 = .ok (.getfield 96, 3) := by decide +kernel
theorem dX1_followsFromOthers_47 : decode cX1_followsFromOthers 47 = .ok (.iload_n 2, 1) := by decide +kernel
theorem dX1_followsFromOthers_48 : decode cX1_followsFromOthers 48 = .ok (.aaload, 1) := by decide +kernel
theorem dX1_followsFromOthers_49 : decode cX1_followsFromOthers 49 = .ok (.aload_n 0, 1) := by decide +kernel
theorem dX1_followsFromOthers_50 : decode cX1_followsFromOthers 50 = .ok (.getfield 23, 3) := by decide +kernel
theorem dX1_followsFromOthers_53 : decode cX1_followsFromOthers 53 = .ok (.invokevirtual 103, 3) := by decide +kernel
theorem dX1_followsFromOthers_56 : decode cX1_followsFromOthers 56 = .ok (.iconst 0, 1) := by decide +kernel
theorem dX1_followsFromOthers_57 : decode cX1_followsFromOthers 57 = .ok (.istore_n 3, 1) := by decide +kernel
theorem dX1_followsFromOthers_58 : decode cX1_followsFromOthers 58 = .ok (.iload_n 3, 1) := by decide +kernel
theorem dX1_followsFromOthers_59 : decode cX1_followsFromOthers 59 = .ok (.aload_n 0, 1) := by decide +kernel
theorem dX1_followsFromOthers_60 : decode cX1_followsFromOthers 60 = .ok (.getfield 23, 3) := by decide +kernel
theorem dX1_followsFromOthers_63 : decode cX1_followsFromOthers 63 = .ok (.getfield 122, 3) := by decide +kernel
theorem dX1_followsFromOthers_66 : decode cX1_followsFromOthers 66 = .ok (.if_icmp .ge 57, 3) := by decide +kernel
theorem dX1_followsFromOthers_69 : decode cX1_followsFromOthers 69 = .ok (.aload_n 0, 1) := by decide +kernel
theorem dX1_followsFromOthers_70 : decode cX1_followsFromOthers 70 = .ok (.getfield 12, 3) := by decide +kernel
theorem dX1_followsFromOthers_73 : decode cX1_followsFromOthers 73 = .ok (.aload_n 0, 1) := by decide +kernel
theorem dX1_followsFromOthers_74 : decode cX1_followsFromOthers 74 = .ok (.getfield 23, 3) := by decide +kernel
theorem dX1_followsFromOthers_77 : decode cX1_followsFromOthers 77 = .ok (.getfield 123, 3) := by decide +kernel
theorem dX1_followsFromOthers_80 : decode cX1_followsFromOthers 80 = .ok (.iload_n 3, 1) := by decide +kernel
theorem dX1_followsFromOthers_81 : decode cX1_followsFromOthers 81 = .ok (.iaload, 1) := by decide +kernel
theorem dX1_followsFromOthers_82 : decode cX1_followsFromOthers 82 = .ok (.invokevirtual 73, 3) := by decide +kernel
theorem dX1_followsFromOthers_85 : decode cX1_followsFromOthers 85 = .ok (.pop, 1) := by decide +kernel
theorem dX1_followsFromOthers_86 : decode cX1_followsFromOthers 86 = .ok (.aload_n 0, 1) := by decide +kernel
theorem dX1_followsFromOthers_87 : decode cX1_followsFromOthers 87 = .ok (.getfield 12, 3) := by decide +kernel
theorem dX1_followsFromOthers_90 : decode cX1_followsFromOthers 90 = .ok (.getfield 76, 3) := by decide +kernel
theorem dX1_followsFromOthers_93 : decode cX1_followsFromOthers 93 = .ok (.aload_n 0, 1) := by decide +kernel
theorem dX1_followsFromOthers_94 : decode cX1_followsFromOthers 94 = .ok (.getfield 23, 3) := by decide +kernel
theorem dX1_followsFromOthers_97 : decode cX1_followsFromOthers 97 = .ok (.getfield 126, 3) := by decide +kernel
theorem dX1_followsFromOthers_100 : decode cX1_followsFromOthers 100 = .ok (.iload_n 3, 1) := by decide +kernel
theorem dX1_followsFromOthers_101 : decode cX1_followsFromOthers 101 = .ok (.iaload, 1) := by decide +kernel
theorem dX1_followsFromOthers_102 : decode cX1_followsFromOthers 102 = .ok (.iaload, 1) := by decide +kernel
theorem dX1_followsFromOthers_103 : decode cX1_followsFromOthers 103 = .ok (.aload_n 0, 1) := by decide +kernel
theorem dX1_followsFromOthers_104 : decode cX1_followsFromOthers 104 = .ok (.getfield 23, 3) := by decide +kernel
theorem dX1_followsFromOthers_107 : decode cX1_followsFromOthers 107 = .ok (.getfield 129, 3) := by decide +kernel
theorem dX1_followsFromOthers_110 : decode cX1_followsFromOthers 110 = .ok (.iload_n 3, 1) := by decide +kernel
theorem dX1_followsFromOthers_111 : decode cX1_followsFromOthers 111 = .ok (.iaload, 1) := by decide +kernel
theorem dX1_followsFromOthers_112 : decode cX1_followsFromOthers 112 = .ok (.if_icmp .ge 5, 3) := by decide +kernel
theorem dX1_followsFromOthers_115 : decode cX1_followsFromOthers 115 = .ok (.iconst 0, 1) := by decide +kernel
theorem dX1_followsFromOthers_116 : decode cX1_followsFromOthers 116 = .ok (.ireturn, 1) := by decide +kernel
theorem dX1_followsFromOthers_117 : decode cX1_followsFromOthers 117 = .ok (.iinc 3 1, 3) := by decide +kernel
theorem dX1_followsFromOthers_120 : decode cX1_followsFromOthers 120 = .ok (.goto (-62), 3) := by decide +kernel
theorem dX1_followsFromOthers_123 : decode cX1_followsFromOthers 123 = .ok (.iconst 1, 1) := by decide +kernel
theorem dX1_followsFromOthers_124 : decode cX1_followsFromOthers 124 = .ok (.ireturn, 1) := by decide +kernel
set_option maxRecDepth 20000 in
theorem ggX1_findLine_X1_isWayFor : GoodIn wsX1_findLine wsX1_isWayFor := goodIn_r _ [10, 11, 12, 13, 14, 9, 15, 3, 4, 16, 17, 18, 19, 20, 21, 22, 23, 24, 25, 26, 27, 28, 29, 30, 31, 32, 33, 34, 35, 36, 37, 38, 39, 40, 41, 42, 43, 44, 45, 46, 47, 48, 49, 50, 51, 52, 53, 54, 55, 56, 57, 58, 59, 60, 61, 62, 63, 64, 65, 66, 67, 68, 69, 70, 71, 72, 73, 74, 75, 76, 77, 78, 79, 80, 81, 82, 83, 84, 85, 86, 87, 88, 89, 101, 102, 103, 104, 105, 106, 107, 108, 109, 110, 111, 112, 113, 114, 115, 116, 117, 118, 119, 120, 121, 122, 123, 124, 125, 126, 127, 128, 129, 130, 131, 132, 133] rfl (by decide +kernel)
set_option maxRecDepth 20000 in
theorem gX1_findLine_X1_isWayFor : GoodIn wsX1_findLine (wsV RX1 66 RX1 yX1_isWayFor wsX1_isWayFor) := goodIn_app (goodIn_of _ (by decide +kernel)) ggX1_findLine_X1_isWayFor
set_option maxRecDepth 20000 in
theorem ggX1_findLine_X1_isEarlier : GoodIn wsX1_findLine wsX1_isEarlier := goodIn_r _ [93, 11, 94, 95, 34, 24, 35, 96, 97, 98, 99, 100, 47, 48, 101, 102, 103, 104, 105, 106, 107, 108, 109, 110, 111, 112, 113, 120, 121, 122] rfl (by decide +kernel)
set_option maxRecDepth 20000 in
theorem gX1_findLine_X1_isEarlier : GoodIn wsX1_findLine (wsV RX1 132 RX1 yX1_isEarlier wsX1_isEarlier) := goodIn_app (goodIn_of _ (by decide +kernel)) ggX1_findLine_X1_isEarlier
theorem dX1_findLine_0 : decode cX1_findLine 0 = .ok (.aload_n 0, 1) := by decide +kernel
theorem dX1_findLine_1 : decode cX1_findLine 1 = .ok (.getfield 55, 3) := by decide +kernel
theorem dX1_findLine_4 : decode cX1_findLine 4 = .ok (.ifCond .eq 4, 3) := by decide +kernel
theorem dX1_findLine_7 : decode cX1_findLine 7 = .ok (.return_, 1) := by decide +kernel
theorem dX1_findLine_8 : decode cX1_findLine 8 = .ok (.aload_n 0, 1) := by decide +kernel
theorem dX1_findLine_9 : decode cX1_findLine 9 = .ok (.iconst 1, 1) := by decide +kernel
theorem dX1_findLine_10 : decode cX1_findLine 10 = .ok (.putfield 55, 3) := by decide +kernel
theorem dX1_findLine_13 : decode cX1_findLine 13 = .ok (.aload_n 0, 1) := by decide +kernel
theorem dX1_findLine_14 : decode cX1_findLine 14 = .ok (.aload_n 0, 1) := by decide +kernel
theorem dX1_findLine_15 : decode cX1_findLine 15 = .ok (.getfield 38, 3) := by decide +kernel
theorem dX1_findLine_18 : decode cX1_findLine 18 = .ok (.invokevirtual 66, 3) := by decide +kernel
theorem dX1_findLine_21 : decode cX1_findLine 21 = .ok (.pop, 1) := by decide +kernel
theorem dX1_findLine_22 : decode cX1_findLine 22 = .ok (.iconst 0, 1) := by decide +kernel
theorem dX1_findLine_23 : decode cX1_findLine 23 = .ok (.istore_n 1, 1) := by decide +kernel
theorem dX1_findLine_24 : decode cX1_findLine 24 = .ok (.iload_n 1, 1) := by decide +kernel
theorem dX1_findLine_25 : decode cX1_findLine 25 = .ok (.aload_n 0, 1) := by decide +kernel
theorem dX1_findLine_26 : decode cX1_findLine 26 = .ok (.getfield 62, 3) := by decide +kernel
theorem dX1_findLine_29 : decode cX1_findLine 29 = .ok (.getfield 82, 3) := by decide +kernel
theorem dX1_findLine_32 : decode cX1_findLine 32 = .ok (.if_icmp .ge 58, 3) := by decide +kernel
theorem dX1_findLine_35 : decode cX1_findLine 35 = .ok (.iload_n 1, 1) := by decide +kernel
theorem dX1_findLine_36 : decode cX1_findLine 36 = .ok (.istore_n 2, 1) := by decide +kernel
theorem dX1_findLine_37 : decode cX1_findLine 37 = .ok (.iload_n 2, 1) := by decide +kernel
theorem dX1_findLine_38 : decode cX1_findLine 38 = .ok (.ifCond .le 39, 3) := by decide +kernel
theorem dX1_findLine_41 : decode cX1_findLine 41 = .ok (.aload_n 0, 1) := by decide +kernel
theorem dX1_findLine_42 : decode cX1_findLine 42 = .ok (.iload_n 1, 1) := by decide +kernel
theorem dX1_findLine_43 : decode cX1_findLine 43 = .ok (.aload_n 0, 1) := by decide +kernel
theorem dX1_findLine_44 : decode cX1_findLine 44 = .ok (.getfield 35, 3) := by decide +kernel
theorem dX1_findLine_47 : decode cX1_findLine 47 = .ok (.iload_n 2, 1) := by decide +kernel
theorem dX1_findLine_48 : decode cX1_findLine 48 = .ok (.iconst 1, 1) := by decide +kernel
theorem dX1_findLine_49 : decode cX1_findLine 49 = .ok (.isub, 1) := by decide +kernel
theorem dX1_findLine_50 : decode cX1_findLine 50 = .ok (.iaload, 1) := by decide +kernel
theorem dX1_findLine_51 : decode cX1_findLine 51 = .ok (.invokevirtual 132, 3) := by decide +kernel
theorem dX1_findLine_54 : decode cX1_findLine 54 = .ok (.ifCond .eq 23, 3) := by decide +kernel
theorem dX1_findLine_57 : decode cX1_findLine 57 = .ok (.aload_n 0, 1) := by decide +kernel
theorem dX1_findLine_58 : decode cX1_findLine 58 = .ok (.getfield 35, 3) := by decide +kernel
theorem dX1_findLine_61 : decode cX1_findLine 61 = .ok (.iload_n 2, 1) := by decide +kernel
theorem dX1_findLine_62 : decode cX1_findLine 62 = .ok (.aload_n 0, 1) := by decide +kernel
theorem dX1_findLine_63 : decode cX1_findLine 63 = .ok (.getfield 35, 3) := by decide +kernel
theorem dX1_findLine_66 : decode cX1_findLine 66 = .ok (.iload_n 2, 1) := by decide +kernel
theorem dX1_findLine_67 : decode cX1_findLine 67 = .ok (.iconst 1, 1) := by decide +kernel
theorem dX1_findLine_68 : decode cX1_findLine 68 = .ok (.isub, 1) := by decide +kernel
theorem dX1_findLine_69 : decode cX1_findLine 69 = .ok (.iaload, 1) := by decide +kernel
theorem dX1_findLine_70 : decode cX1_findLine 70 = .ok (.iastore, 1) := by decide +kernel
theorem dX1_findLine_71 : decode cX1_findLine 71 = .ok (.iinc 2 (-1), 3) := by decide +kernel
theorem dX1_findLine_74 : decode cX1_findLine 74 = .ok (.goto (-37), 3) := by decide +kernel
theorem dX1_findLine_77 : decode cX1_findLine 77 = .ok (.aload_n 0, 1) := by decide +kernel
theorem dX1_findLine_78 : decode cX1_findLine 78 = .ok (.getfield 35, 3) := by decide +kernel
theorem dX1_findLine_81 : decode cX1_findLine 81 = .ok (.iload_n 2, 1) := by decide +kernel
theorem dX1_findLine_82 : decode cX1_findLine 82 = .ok (.iload_n 1, 1) := by decide +kernel
theorem dX1_findLine_83 : decode cX1_findLine 83 = .ok (.iastore, 1) := by decide +kernel
theorem dX1_findLine_84 : decode cX1_findLine 84 = .ok (.iinc 1 1, 3) := by decide +kernel
theorem dX1_findLine_87 : decode cX1_findLine 87 = .ok (.goto (-63), 3) := by decide +kernel
theorem dX1_findLine_90 : decode cX1_findLine 90 = .ok (.return_, 1) := by decide +kernel
set_option maxRecDepth 20000 in
theorem ggX1_isEarlier_X4_firstOf : GoodIn wsX1_isEarlier wsX4_firstOf := goodIn_r _ [6] rfl (by decide +kernel)
set_option maxRecDepth 20000 in
theorem gX1_isEarlier_X4_firstOf : GoodIn wsX1_isEarlier (va_wsS RX1 136 yX4_firstOf wsX4_firstOf) := goodIn_app (goodIn_of _ (by decide +kernel)) ggX1_isEarlier_X4_firstOf
set_option maxRecDepth 20000 in
theorem ggX1_isEarlier_J6_compare_7cf53 : GoodIn wsX1_isEarlier wsJ6_compare_7cf53 := goodIn_r _ [10] rfl (by decide +kernel)
set_option maxRecDepth 20000 in
theorem gX1_isEarlier_J6_compare_7cf53 : GoodIn wsX1_isEarlier (va_wsS RX1 139 yJ6_compare_7cf53 wsJ6_compare_7cf53) := goodIn_app (goodIn_of _ (by decide +kernel)) ggX1_isEarlier_J6_compare_7cf53
set_option maxRecDepth 20000 in
theorem ggX1_isEarlier_X4_lastOf : GoodIn wsX1_isEarlier wsX4_lastOf := goodIn_r _ [13] rfl (by decide +kernel)
set_option maxRecDepth 20000 in
theorem gX1_isEarlier_X4_lastOf : GoodIn wsX1_isEarlier (va_wsS RX1 142 yX4_lastOf wsX4_lastOf) := goodIn_app (goodIn_of _ (by decide +kernel)) ggX1_isEarlier_X4_lastOf
theorem dX1_isEarlier_0 : decode cX1_isEarlier 0 = .ok (.aload_n 0, 1) := by decide +kernel
theorem dX1_isEarlier_1 : decode cX1_isEarlier 1 = .ok (.getfield 12, 3) := by decide +kernel
theorem dX1_isEarlier_4 : decode cX1_isEarlier 4 = .ok (.getfield 76, 3) := by decide +kernel
theorem dX1_isEarlier_7 : decode cX1_isEarlier 7 = .ok (.iload_n 1, 1) := by decide +kernel
theorem dX1_isEarlier_8 : decode cX1_isEarlier 8 = .ok (.invokestatic 136, 3) := by decide +kernel
theorem dX1_isEarlier_11 : decode cX1_isEarlier 11 = .ok (.iaload, 1) := by decide +kernel
theorem dX1_isEarlier_12 : decode cX1_isEarlier 12 = .ok (.aload_n 0, 1) := by decide +kernel
theorem dX1_isEarlier_13 : decode cX1_isEarlier 13 = .ok (.getfield 12, 3) := by decide +kernel
theorem dX1_isEarlier_16 : decode cX1_isEarlier 16 = .ok (.getfield 76, 3) := by decide +kernel
theorem dX1_isEarlier_19 : decode cX1_isEarlier 19 = .ok (.iload_n 2, 1) := by decide +kernel
theorem dX1_isEarlier_20 : decode cX1_isEarlier 20 = .ok (.invokestatic 136, 3) := by decide +kernel
theorem dX1_isEarlier_23 : decode cX1_isEarlier 23 = .ok (.iaload, 1) := by decide +kernel
theorem dX1_isEarlier_24 : decode cX1_isEarlier 24 = .ok (.invokestatic 139, 3) := by decide +kernel
theorem dX1_isEarlier_27 : decode cX1_isEarlier 27 = .ok (.istore_n 3, 1) := by decide +kernel
theorem dX1_isEarlier_28 : decode cX1_isEarlier 28 = .ok (.iload_n 3, 1) := by decide +kernel
theorem dX1_isEarlier_29 : decode cX1_isEarlier 29 = .ok (.ifCond .eq 13, 3) := by decide +kernel
theorem dX1_isEarlier_32 : decode cX1_isEarlier 32 = .ok (.iload_n 3, 1) := by decide +kernel
theorem dX1_isEarlier_33 : decode cX1_isEarlier 33 = .ok (.ifCond .ge 7, 3) := by decide +kernel
theorem dX1_isEarlier_36 : decode cX1_isEarlier 36 = .ok (.iconst 1, 1) := by decide +kernel
theorem dX1_isEarlier_37 : decode cX1_isEarlier 37 = .ok (.goto 4, 3) := by decide +kernel
theorem dX1_isEarlier_40 : decode cX1_isEarlier 40 = .ok (.iconst 0, 1) := by decide +kernel
theorem dX1_isEarlier_41 : decode cX1_isEarlier 41 = .ok (.ireturn, 1) := by decide +kernel
theorem dX1_isEarlier_42 : decode cX1_isEarlier 42 = .ok (.aload_n 0, 1) := by decide +kernel
theorem dX1_isEarlier_43 : decode cX1_isEarlier 43 = .ok (.getfield 12, 3) := by decide +kernel
theorem dX1_isEarlier_46 : decode cX1_isEarlier 46 = .ok (.getfield 76, 3) := by decide +kernel
theorem dX1_isEarlier_49 : decode cX1_isEarlier 49 = .ok (.iload_n 1, 1) := by decide +kernel
theorem dX1_isEarlier_50 : decode cX1_isEarlier 50 = .ok (.invokestatic 142, 3) := by decide +kernel
theorem dX1_isEarlier_53 : decode cX1_isEarlier 53 = .ok (.iaload, 1) := by decide +kernel
theorem dX1_isEarlier_54 : decode cX1_isEarlier 54 = .ok (.aload_n 0, 1) := by decide +kernel
theorem dX1_isEarlier_55 : decode cX1_isEarlier 55 = .ok (.getfield 12, 3) := by decide +kernel
theorem dX1_isEarlier_58 : decode cX1_isEarlier 58 = .ok (.getfield 76, 3) := by decide +kernel
theorem dX1_isEarlier_61 : decode cX1_isEarlier 61 = .ok (.iload_n 2, 1) := by decide +kernel
theorem dX1_isEarlier_62 : decode cX1_isEarlier 62 = .ok (.invokestatic 142, 3) := by decide +kernel
theorem dX1_isEarlier_65 : decode cX1_isEarlier 65 = .ok (.iaload, 1) := by decide +kernel
theorem dX1_isEarlier_66 : decode cX1_isEarlier 66 = .ok (.if_icmp .ge 7, 3) := by decide +kernel
theorem dX1_isEarlier_69 : decode cX1_isEarlier 69 = .ok (.iconst 1, 1) := by decide +kernel
theorem dX1_isEarlier_70 : decode cX1_isEarlier 70 = .ok (.goto 4, 3) := by decide +kernel
theorem dX1_isEarlier_73 : decode cX1_isEarlier 73 = .ok (.iconst 0, 1) := by decide +kernel
theorem dX1_isEarlier_74 : decode cX1_isEarlier 74 = .ok (.ireturn, 1) := by decide +kernel
theorem dX2_init_0 : decode cX2_init 0 = .ok (.aload_n 0, 1) := by decide +kernel
theorem dX2_init_1 : decode cX2_init 1 = .ok (.invokespecial 1, 3) := by decide +kernel
theorem dX2_init_4 : decode cX2_init 4 = .ok (.aload_n 0, 1) := by decide +kernel
theorem dX2_init_5 : decode cX2_init 5 = .ok (.iconst 0, 1) := by decide +kernel
theorem dX2_init_6 : decode cX2_init 6 = .ok (.putfield 7, 3) := by decide +kernel
theorem dX2_init_9 : decode cX2_init 9 = .ok (.aload_n 0, 1) := by decide +kernel
theorem dX2_init_10 : decode cX2_init 10 = .ok (.iload_n 1, 1) := by decide +kernel
theorem dX2_init_11 : decode cX2_init 11 = .ok (.putfield 13, 3) := by decide +kernel
theorem dX2_init_14 : decode cX2_init 14 = .ok (.aload_n 0, 1) := by decide +kernel
theorem dX2_init_15 : decode cX2_init 15 = .ok (.iload_n 1, 1) := by decide +kernel
theorem dX2_init_16 : decode cX2_init 16 = .ok (.newarray .int, 2) := by decide +kernel
theorem dX2_init_18 : decode cX2_init 18 = .ok (.putfield 16, 3) := by decide +kernel
theorem dX2_init_21 : decode cX2_init 21 = .ok (.aload_n 0, 1) := by decide +kernel
theorem dX2_init_22 : decode cX2_init 22 = .ok (.iload_n 1, 1) := by decide +kernel
theorem dX2_init_23 : decode cX2_init 23 = .ok (.newarray .int, 2) := by decide +kernel
theorem dX2_init_25 : decode cX2_init 25 = .ok (.putfield 20, 3) := by decide +kernel
theorem dX2_init_28 : decode cX2_init 28 = .ok (.aload_n 0, 1) := by decide +kernel
theorem dX2_init_29 : decode cX2_init 29 = .ok (.iload_n 1, 1) := by decide +kernel
theorem dX2_init_30 : decode cX2_init 30 = .ok (.newarray .int, 2) := by decide +kernel
theorem dX2_init_32 : decode cX2_init 32 = .ok (.putfield 23, 3) := by decide +kernel
theorem dX2_init_35 : decode cX2_init 35 = .ok (.return_, 1) := by decide +kernel
theorem dX2_add_0 : decode cX2_add 0 = .ok (.aload_n 0, 1) := by decide +kernel
theorem dX2_add_1 : decode cX2_add 1 = .ok (.getfield 7, 3) := by decide +kernel
theorem dX2_add_4 : decode cX2_add 4 = .ok (.aload_n 0, 1) := by decide +kernel
theorem dX2_add_5 : decode cX2_add 5 = .ok (.getfield 13, 3) := by decide +kernel
theorem dX2_add_8 : decode cX2_add 8 = .ok (.if_icmp .ge 43, 3) := by decide +kernel
theorem dX2_add_11 : decode cX2_add 11 = .ok (.aload_n 0, 1) := by decide +kernel
theorem dX2_add_12 : decode cX2_add 12 = .ok (.getfield 16, 3) := by decide +kernel
theorem dX2_add_15 : decode cX2_add 15 = .ok (.aload_n 0, 1) := by decide +kernel
theorem dX2_add_16 : decode cX2_add 16 = .ok (.getfield 7, 3) := by decide +kernel
theorem dX2_add_19 : decode cX2_add 19 = .ok (.iload_n 1, 1) := by decide +kernel
theorem dX2_add_20 : decode cX2_add 20 = .ok (.iastore, 1) := by decide +kernel
theorem dX2_add_21 : decode cX2_add 21 = .ok (.aload_n 0, 1) := by decide +kernel
theorem dX2_add_22 : decode cX2_add 22 = .ok (.getfield 20, 3) := by decide +kernel
theorem dX2_add_25 : decode cX2_add 25 = .ok (.aload_n 0, 1) := by decide +kernel
theorem dX2_add_26 : decode cX2_add 26 = .ok (.getfield 7, 3) := by decide +kernel
theorem dX2_add_29 : decode cX2_add 29 = .ok (.iload_n 2, 1) := by decide +kernel
theorem dX2_add_30 : decode cX2_add 30 = .ok (.iastore, 1) := by decide +kernel
theorem dX2_add_31 : decode cX2_add 31 = .ok (.aload_n 0, 1) := by decide +kernel
theorem dX2_add_32 : decode cX2_add 32 = .ok (.getfield 23, 3) := by decide +kernel
theorem dX2_add_35 : decode cX2_add 35 = .ok (.aload_n 0, 1) := by decide +kernel
theorem dX2_add_36 : decode cX2_add 36 = .ok (.getfield 7, 3) := by decide +kernel
theorem dX2_add_39 : decode cX2_add 39 = .ok (.iload_n 3, 1) := by decide +kernel
theorem dX2_add_40 : decode cX2_add 40 = .ok (.iastore, 1) := by decide +kernel
theorem dX2_add_41 : decode cX2_add 41 = .ok (.aload_n 0, 1) := by decide +kernel
theorem dX2_add_42 : decode cX2_add 42 = .ok (.dup, 1) := by decide +kernel
theorem dX2_add_43 : decode cX2_add 43 = .ok (.getfield 7, 3) := by decide +kernel
theorem dX2_add_46 : decode cX2_add 46 = .ok (.iconst 1, 1) := by decide +kernel
theorem dX2_add_47 : decode cX2_add 47 = .ok (.iadd, 1) := by decide +kernel
theorem dX2_add_48 : decode cX2_add 48 = .ok (.putfield 7, 3) := by decide +kernel
theorem dX2_add_51 : decode cX2_add 51 = .ok (.return_, 1) := by decide +kernel
theorem dX3_init_0 : decode cX3_init 0 = .ok (.aload_n 0, 1) := by decide +kernel
theorem dX3_init_1 : decode cX3_init 1 = .ok (.invokespecial 3, 3) := by decide +kernel
theorem dX3_init_4 : decode cX3_init 4 = .ok (.aload_n 0, 1) := by decide +kernel
theorem dX3_init_5 : decode cX3_init 5 = .ok (.sipush 160, 3) := by decide +kernel
theorem dX3_init_8 : decode cX3_init 8 = .ok (.newarray .byte, 2) := by decide +kernel
theorem dX3_init_10 : decode cX3_init 10 = .ok (.putfield 9, 3) := by decide +kernel
theorem dX3_init_13 : decode cX3_init 13 = .ok (.aload_n 0, 1) := by decide +kernel
theorem dX3_init_14 : decode cX3_init 14 = .ok (.bipush 20, 2) := by decide +kernel
theorem dX3_init_16 : decode cX3_init 16 = .ok (.newarray .int, 2) := by decide +kernel
theorem dX3_init_18 : decode cX3_init 18 = .ok (.putfield 15, 3) := by decide +kernel
theorem dX3_init_21 : decode cX3_init 21 = .ok (.aload_n 0, 1) := by decide +kernel
theorem dX3_init_22 : decode cX3_init 22 = .ok (.iconst 0, 1) := by decide +kernel
theorem dX3_init_23 : decode cX3_init 23 = .ok (.putfield 19, 3) := by decide +kernel
theorem dX3_init_26 : decode cX3_init 26 = .ok (.aload_n 0, 1) := by decide +kernel
theorem dX3_init_27 : decode cX3_init 27 = .ok (.iconst 0, 1) := by decide +kernel
theorem dX3_init_28 : decode cX3_init 28 = .ok (.putfield 23, 3) := by decide +kernel
theorem dX3_init_31 : decode cX3_init 31 = .ok (.return_, 1) := by decide +kernel
theorem dX3_has_0 : decode cX3_has 0 = .ok (.iload_n 1, 1) := by decide +kernel
theorem dX3_has_1 : decode cX3_has 1 = .ok (.ifCond .lt 15, 3) := by decide +kernel
theorem dX3_has_4 : decode cX3_has 4 = .ok (.iload_n 1, 1) := by decide +kernel
theorem dX3_has_5 : decode cX3_has 5 = .ok (.aload_n 0, 1) := by decide +kernel
theorem dX3_has_6 : decode cX3_has 6 = .ok (.getfield 19, 3) := by decide +kernel
theorem dX3_has_9 : decode cX3_has 9 = .ok (.if_icmp .ge 7, 3) := by decide +kernel
theorem dX3_has_12 : decode cX3_has 12 = .ok (.iconst 1, 1) := by decide +kernel
theorem dX3_has_13 : decode cX3_has 13 = .ok (.goto 4, 3) := by decide +kernel
theorem dX3_has_16 : decode cX3_has 16 = .ok (.iconst 0, 1) := by decide +kernel
theorem dX3_has_17 : decode cX3_has 17 = .ok (.ireturn, 1) := by decide +kernel
theorem dX3_letter_0 : decode cX3_letter 0 = .ok (.aload_n 0, 1) := by decide +kernel
theorem dX3_letter_1 : decode cX3_letter 1 = .ok (.getfield 9, 3) := by decide +kernel
theorem dX3_letter_4 : decode cX3_letter 4 = .ok (.iload_n 1, 1) := by decide +kernel
theorem dX3_letter_5 : decode cX3_letter 5 = .ok (.bipush 8, 2) := by decide +kernel
theorem dX3_letter_7 : decode cX3_letter 7 = .ok (.imul, 1) := by decide +kernel
theorem dX3_letter_8 : decode cX3_letter 8 = .ok (.iload_n 2, 1) := by decide +kernel
theorem dX3_letter_9 : decode cX3_letter 9 = .ok (.iadd, 1) := by decide +kernel
theorem dX3_letter_10 : decode cX3_letter 10 = .ok (.baload, 1) := by decide +kernel
theorem dX3_letter_11 : decode cX3_letter 11 = .ok (.ireturn, 1) := by decide +kernel
set_option maxRecDepth 20000 in
theorem ggX3_find_X3_isSpelled : GoodIn wsX3_find wsX3_isSpelled := goodIn_r _ [7, 2, 8, 9, 10, 11, 12, 13, 14, 15] rfl (by decide +kernel)
set_option maxRecDepth 20000 in
theorem gX3_find_X3_isSpelled : GoodIn wsX3_find (wsV RX3 26 RX3 yX3_isSpelled wsX3_isSpelled) := goodIn_app (goodIn_of _ (by decide +kernel)) ggX3_find_X3_isSpelled
theorem dX3_find_0 : decode cX3_find 0 = .ok (.iconst 0, 1) := by decide +kernel
theorem dX3_find_1 : decode cX3_find 1 = .ok (.istore 4, 2) := by decide +kernel
theorem dX3_find_3 : decode cX3_find 3 = .ok (.iload 4, 2) := by decide +kernel
theorem dX3_find_5 : decode cX3_find 5 = .ok (.aload_n 0, 1) := by decide +kernel
theorem dX3_find_6 : decode cX3_find 6 = .ok (.getfield 23, 3) := by decide +kernel
theorem dX3_find_9 : decode cX3_find 9 = .ok (.if_icmp .ge 34, 3) := by decide +kernel
theorem dX3_find_12 : decode cX3_find 12 = .ok (.aload_n 0, 1) := by decide +kernel
theorem dX3_find_13 : decode cX3_find 13 = .ok (.getfield 15, 3) := by decide +kernel
theorem dX3_find_16 : decode cX3_find 16 = .ok (.iload 4, 2) := by decide +kernel
theorem dX3_find_18 : decode cX3_find 18 = .ok (.iaload, 1) := by decide +kernel
theorem dX3_find_19 : decode cX3_find 19 = .ok (.iload_n 3, 1) := by decide +kernel
theorem dX3_find_20 : decode cX3_find 20 = .ok (.if_icmp .ne 17, 3) := by decide +kernel
theorem dX3_find_23 : decode cX3_find 23 = .ok (.aload_n 0, 1) := by decide +kernel
theorem dX3_find_24 : decode cX3_find 24 = .ok (.iload 4, 2) := by decide +kernel
theorem dX3_find_26 : decode cX3_find 26 = .ok (.aload_n 1, 1) := by decide +kernel
theorem dX3_find_27 : decode cX3_find 27 = .ok (.iload_n 2, 1) := by decide +kernel
theorem dX3_find_28 : decode cX3_find 28 = .ok (.invokevirtual 26, 3) := by decide +kernel
theorem dX3_find_31 : decode cX3_find 31 = .ok (.ifCond .eq 6, 3) := by decide +kernel
theorem dX3_find_34 : decode cX3_find 34 = .ok (.iload 4, 2) := by decide +kernel
theorem dX3_find_36 : decode cX3_find 36 = .ok (.ireturn, 1) := by decide +kernel
theorem dX3_find_37 : decode cX3_find 37 = .ok (.iinc 4 1, 3) := by decide +kernel
theorem dX3_find_40 : decode cX3_find 40 = .ok (.goto (-37), 3) := by decide +kernel
theorem dX3_find_43 : decode cX3_find 43 = .ok (.iconst (-1), 1) := by decide +kernel
theorem dX3_find_44 : decode cX3_find 44 = .ok (.ireturn, 1) := by decide +kernel
theorem dX3_isSpelled_0 : decode cX3_isSpelled 0 = .ok (.iconst 0, 1) := by decide +kernel
theorem dX3_isSpelled_1 : decode cX3_isSpelled 1 = .ok (.istore 4, 2) := by decide +kernel
theorem dX3_isSpelled_3 : decode cX3_isSpelled 3 = .ok (.iload 4, 2) := by decide +kernel
theorem dX3_isSpelled_5 : decode cX3_isSpelled 5 = .ok (.aload_n 0, 1) := by decide +kernel
theorem dX3_isSpelled_6 : decode cX3_isSpelled 6 = .ok (.getfield 15, 3) := by decide +kernel
theorem dX3_isSpelled_9 : decode cX3_isSpelled 9 = .ok (.iload_n 1, 1) := by decide +kernel
theorem dX3_isSpelled_10 : decode cX3_isSpelled 10 = .ok (.iaload, 1) := by decide +kernel
theorem dX3_isSpelled_11 : decode cX3_isSpelled 11 = .ok (.if_icmp .ge 35, 3) := by decide +kernel
theorem dX3_isSpelled_14 : decode cX3_isSpelled 14 = .ok (.aload_n 2, 1) := by decide +kernel
theorem dX3_isSpelled_15 : decode cX3_isSpelled 15 = .ok (.getfield 30, 3) := by decide +kernel
theorem dX3_isSpelled_18 : decode cX3_isSpelled 18 = .ok (.iload_n 3, 1) := by decide +kernel
theorem dX3_isSpelled_19 : decode cX3_isSpelled 19 = .ok (.iload 4, 2) := by decide +kernel
theorem dX3_isSpelled_21 : decode cX3_isSpelled 21 = .ok (.iadd, 1) := by decide +kernel
theorem dX3_isSpelled_22 : decode cX3_isSpelled 22 = .ok (.baload, 1) := by decide +kernel
theorem dX3_isSpelled_23 : decode cX3_isSpelled 23 = .ok (.aload_n 0, 1) := by decide +kernel
theorem dX3_isSpelled_24 : decode cX3_isSpelled 24 = .ok (.getfield 9, 3) := by decide +kernel
theorem dX3_isSpelled_27 : decode cX3_isSpelled 27 = .ok (.iload_n 1, 1) := by decide +kernel
theorem dX3_isSpelled_28 : decode cX3_isSpelled 28 = .ok (.bipush 8, 2) := by decide +kernel
theorem dX3_isSpelled_30 : decode cX3_isSpelled 30 = .ok (.imul, 1) := by decide +kernel
theorem dX3_isSpelled_31 : decode cX3_isSpelled 31 = .ok (.iload 4, 2) := by decide +kernel
theorem dX3_isSpelled_33 : decode cX3_isSpelled 33 = .ok (.iadd, 1) := by decide +kernel
theorem dX3_isSpelled_34 : decode cX3_isSpelled 34 = .ok (.baload, 1) := by decide +kernel
theorem dX3_isSpelled_35 : decode cX3_isSpelled 35 = .ok (.if_icmp .eq 5, 3) := by decide +kernel
theorem dX3_isSpelled_38 : decode cX3_isSpelled 38 = .ok (.iconst 0, 1) := by decide +kernel
theorem dX3_isSpelled_39 : decode cX3_isSpelled 39 = .ok (.ireturn, 1) := by decide +kernel
theorem dX3_isSpelled_40 : decode cX3_isSpelled 40 = .ok (.iinc 4 1, 3) := by decide +kernel
theorem dX3_isSpelled_43 : decode cX3_isSpelled 43 = .ok (.goto (-40), 3) := by decide +kernel
theorem dX3_isSpelled_46 : decode cX3_isSpelled 46 = .ok (.iconst 1, 1) := by decide +kernel
theorem dX3_isSpelled_47 : decode cX3_isSpelled 47 = .ok (.ireturn, 1) := by decide +kernel
set_option maxRecDepth 20000 in
theorem ggX3_findOrDraft_X3_find : GoodIn wsX3_findOrDraft wsX3_find := goodIn_r _ [9, 1, 4, 10, 11, 12, 8, 13, 3, 2, 14, 15, 16, 17, 18, 19] rfl (by decide +kernel)
set_option maxRecDepth 20000 in
theorem gX3_findOrDraft_X3_find : GoodIn wsX3_findOrDraft (wsV RX3 35 RX3 yX3_find wsX3_find) := goodIn_app (goodIn_of _ (by decide +kernel)) ggX3_findOrDraft_X3_find
theorem dX3_findOrDraft_0 : decode cX3_findOrDraft 0 = .ok (.aload_n 0, 1) := by decide +kernel
theorem dX3_findOrDraft_1 : decode cX3_findOrDraft 1 = .ok (.aload_n 1, 1) := by decide +kernel
theorem dX3_findOrDraft_2 : decode cX3_findOrDraft 2 = .ok (.iload_n 2, 1) := by decide +kernel
theorem dX3_findOrDraft_3 : decode cX3_findOrDraft 3 = .ok (.iload_n 3, 1) := by decide +kernel
theorem dX3_findOrDraft_4 : decode cX3_findOrDraft 4 = .ok (.invokevirtual 35, 3) := by decide +kernel
theorem dX3_findOrDraft_7 : decode cX3_findOrDraft 7 = .ok (.istore 4, 2) := by decide +kernel
theorem dX3_findOrDraft_9 : decode cX3_findOrDraft 9 = .ok (.iload 4, 2) := by decide +kernel
theorem dX3_findOrDraft_11 : decode cX3_findOrDraft 11 = .ok (.iconst (-1), 1) := by decide +kernel
theorem dX3_findOrDraft_12 : decode cX3_findOrDraft 12 = .ok (.if_icmp .ne 18, 3) := by decide +kernel
theorem dX3_findOrDraft_15 : decode cX3_findOrDraft 15 = .ok (.aload_n 0, 1) := by decide +kernel
theorem dX3_findOrDraft_16 : decode cX3_findOrDraft 16 = .ok (.getfield 23, 3) := by decide +kernel
theorem dX3_findOrDraft_19 : decode cX3_findOrDraft 19 = .ok (.bipush 20, 2) := by decide +kernel
theorem dX3_findOrDraft_21 : decode cX3_findOrDraft 21 = .ok (.if_icmp .ge 9, 3) := by decide +kernel
theorem dX3_findOrDraft_24 : decode cX3_findOrDraft 24 = .ok (.iload_n 3, 1) := by decide +kernel
theorem dX3_findOrDraft_25 : decode cX3_findOrDraft 25 = .ok (.bipush 8, 2) := by decide +kernel
theorem dX3_findOrDraft_27 : decode cX3_findOrDraft 27 = .ok (.if_icmp .le 6, 3) := by decide +kernel
theorem dX3_findOrDraft_30 : decode cX3_findOrDraft 30 = .ok (.iload 4, 2) := by decide +kernel
theorem dX3_findOrDraft_32 : decode cX3_findOrDraft 32 = .ok (.ireturn, 1) := by decide +kernel
theorem dX3_findOrDraft_33 : decode cX3_findOrDraft 33 = .ok (.iconst 0, 1) := by decide +kernel
theorem dX3_findOrDraft_34 : decode cX3_findOrDraft 34 = .ok (.istore 5, 2) := by decide +kernel
theorem dX3_findOrDraft_36 : decode cX3_findOrDraft 36 = .ok (.iload 5, 2) := by decide +kernel
theorem dX3_findOrDraft_38 : decode cX3_findOrDraft 38 = .ok (.iload_n 3, 1) := by decide +kernel
theorem dX3_findOrDraft_39 : decode cX3_findOrDraft 39 = .ok (.if_icmp .ge 33, 3) := by decide +kernel
theorem dX3_findOrDraft_42 : decode cX3_findOrDraft 42 = .ok (.aload_n 0, 1) := by decide +kernel
theorem dX3_findOrDraft_43 : decode cX3_findOrDraft 43 = .ok (.getfield 9, 3) := by decide +kernel
theorem dX3_findOrDraft_46 : decode cX3_findOrDraft 46 = .ok (.aload_n 0, 1) := by decide +kernel
theorem dX3_findOrDraft_47 : decode cX3_findOrDraft 47 = .ok (.getfield 23, 3) := by decide +kernel
theorem dX3_findOrDraft_50 : decode cX3_findOrDraft 50 = .ok (.bipush 8, 2) := by decide +kernel
theorem dX3_findOrDraft_52 : decode cX3_findOrDraft 52 = .ok (.imul, 1) := by decide +kernel
theorem dX3_findOrDraft_53 : decode cX3_findOrDraft 53 = .ok (.iload 5, 2) := by decide +kernel
theorem dX3_findOrDraft_55 : decode cX3_findOrDraft 55 = .ok (.iadd, 1) := by decide +kernel
theorem dX3_findOrDraft_56 : decode cX3_findOrDraft 56 = .ok (.aload_n 1, 1) := by decide +kernel
theorem dX3_findOrDraft_57 : decode cX3_findOrDraft 57 = .ok (.getfield 30, 3) := by decide +kernel
theorem dX3_findOrDraft_60 : decode cX3_findOrDraft 60 = .ok (.iload_n 2, 1) := by decide +kernel
theorem dX3_findOrDraft_61 : decode cX3_findOrDraft 61 = .ok (.iload 5, 2) := by decide +kernel
theorem dX3_findOrDraft_63 : decode cX3_findOrDraft 63 = .ok (.iadd, 1) := by decide +kernel
theorem dX3_findOrDraft_64 : decode cX3_findOrDraft 64 = .ok (.baload, 1) := by decide +kernel
theorem dX3_findOrDraft_65 : decode cX3_findOrDraft 65 = .ok (.bastore, 1) := by decide +kernel
theorem dX3_findOrDraft_66 : decode cX3_findOrDraft 66 = .ok (.iinc 5 1, 3) := by decide +kernel
theorem dX3_findOrDraft_69 : decode cX3_findOrDraft 69 = .ok (.goto (-33), 3) := by decide +kernel
theorem dX3_findOrDraft_72 : decode cX3_findOrDraft 72 = .ok (.aload_n 0, 1) := by decide +kernel
theorem dX3_findOrDraft_73 : decode cX3_findOrDraft 73 = .ok (.getfield 15, 3) := by decide +kernel
theorem dX3_findOrDraft_76 : decode cX3_findOrDraft 76 = .ok (.aload_n 0, 1) := by decide +kernel
theorem dX3_findOrDraft_77 : decode cX3_findOrDraft 77 = .ok (.getfield 23, 3) := by decide +kernel
theorem dX3_findOrDraft_80 : decode cX3_findOrDraft 80 = .ok (.iload_n 3, 1) := by decide +kernel
theorem dX3_findOrDraft_81 : decode cX3_findOrDraft 81 = .ok (.iastore, 1) := by decide +kernel
theorem dX3_findOrDraft_82 : decode cX3_findOrDraft 82 = .ok (.aload_n 0, 1) := by decide +kernel
theorem dX3_findOrDraft_83 : decode cX3_findOrDraft 83 = .ok (.dup, 1) := by decide +kernel
theorem dX3_findOrDraft_84 : decode cX3_findOrDraft 84 = .ok (.getfield 23, 3) := by decide +kernel
theorem dX3_findOrDraft_87 : decode cX3_findOrDraft 87 = .ok (.iconst 1, 1) := by decide +kernel
theorem dX3_findOrDraft_88 : decode cX3_findOrDraft 88 = .ok (.iadd, 1) := by decide +kernel
theorem dX3_findOrDraft_89 : decode cX3_findOrDraft 89 = .ok (.putfield 23, 3) := by decide +kernel
theorem dX3_findOrDraft_92 : decode cX3_findOrDraft 92 = .ok (.aload_n 0, 1) := by decide +kernel
theorem dX3_findOrDraft_93 : decode cX3_findOrDraft 93 = .ok (.getfield 23, 3) := by decide +kernel
theorem dX3_findOrDraft_96 : decode cX3_findOrDraft 96 = .ok (.iconst 1, 1) := by decide +kernel
theorem dX3_findOrDraft_97 : decode cX3_findOrDraft 97 = .ok (.isub, 1) := by decide +kernel
theorem dX3_findOrDraft_98 : decode cX3_findOrDraft 98 = .ok (.ireturn, 1) := by decide +kernel
theorem dX3_settle_0 : decode cX3_settle 0 = .ok (.iload_n 1, 1) := by decide +kernel
theorem dX3_settle_1 : decode cX3_settle 1 = .ok (.ifCond .eq 14, 3) := by decide +kernel
theorem dX3_settle_4 : decode cX3_settle 4 = .ok (.aload_n 0, 1) := by decide +kernel
theorem dX3_settle_5 : decode cX3_settle 5 = .ok (.aload_n 0, 1) := by decide +kernel
theorem dX3_settle_6 : decode cX3_settle 6 = .ok (.getfield 23, 3) := by decide +kernel
theorem dX3_settle_9 : decode cX3_settle 9 = .ok (.putfield 19, 3) := by decide +kernel
theorem dX3_settle_12 : decode cX3_settle 12 = .ok (.goto 11, 3) := by decide +kernel
theorem dX3_settle_15 : decode cX3_settle 15 = .ok (.aload_n 0, 1) := by decide +kernel
theorem dX3_settle_16 : decode cX3_settle 16 = .ok (.aload_n 0, 1) := by decide +kernel
theorem dX3_settle_17 : decode cX3_settle 17 = .ok (.getfield 19, 3) := by decide +kernel
theorem dX3_settle_20 : decode cX3_settle 20 = .ok (.putfield 23, 3) := by decide +kernel
theorem dX3_settle_23 : decode cX3_settle 23 = .ok (.return_, 1) := by decide +kernel
set_option maxRecDepth 20000 in
theorem ggX4_init_X2_init : GoodIn wsX4_init wsX2_init := goodIn_r _ [13, 14, 2, 3, 15, 16, 8, 17, 18, 19, 20, 21, 22, 23, 24] rfl (by decide +kernel)
set_option maxRecDepth 20000 in
theorem gX4_init_X2_init : GoodIn wsX4_init (wsX2_init) := ggX4_init_X2_init
theorem dX4_init_0 : decode cX4_init 0 = .ok (.aload_n 0, 1) := by decide +kernel
theorem dX4_init_1 : decode cX4_init 1 = .ok (.invokespecial 5, 3) := by decide +kernel
theorem dX4_init_4 : decode cX4_init 4 = .ok (.aload_n 0, 1) := by decide +kernel
theorem dX4_init_5 : decode cX4_init 5 = .ok (.new 1, 3) := by decide +kernel
theorem dX4_init_8 : decode cX4_init 8 = .ok (.dup, 1) := by decide +kernel
theorem dX4_init_9 : decode cX4_init 9 = .ok (.sipush 348, 3) := by decide +kernel
theorem dX4_init_12 : decode cX4_init 12 = .ok (.invokespecial 13, 3) := by decide +kernel
theorem dX4_init_15 : decode cX4_init 15 = .ok (.putfield 16, 3) := by decide +kernel
theorem dX4_init_18 : decode cX4_init 18 = .ok (.aload_n 0, 1) := by decide +kernel
theorem dX4_init_19 : decode cX4_init 19 = .ok (.bipush 41, 2) := by decide +kernel
theorem dX4_init_21 : decode cX4_init 21 = .ok (.newarray .int, 2) := by decide +kernel
theorem dX4_init_23 : decode cX4_init 23 = .ok (.putfield 20, 3) := by decide +kernel
theorem dX4_init_26 : decode cX4_init 26 = .ok (.aload_n 0, 1) := by decide +kernel
theorem dX4_init_27 : decode cX4_init 27 = .ok (.iconst 1, 1) := by decide +kernel
theorem dX4_init_28 : decode cX4_init 28 = .ok (.putfield 24, 3) := by decide +kernel
theorem dX4_init_31 : decode cX4_init 31 = .ok (.return_, 1) := by decide +kernel
theorem dX4_firstOf_0 : decode cX4_firstOf 0 = .ok (.iconst 1, 1) := by decide +kernel
theorem dX4_firstOf_1 : decode cX4_firstOf 1 = .ok (.iconst 2, 1) := by decide +kernel
theorem dX4_firstOf_2 : decode cX4_firstOf 2 = .ok (.iload_n 0, 1) := by decide +kernel
theorem dX4_firstOf_3 : decode cX4_firstOf 3 = .ok (.imul, 1) := by decide +kernel
theorem dX4_firstOf_4 : decode cX4_firstOf 4 = .ok (.iadd, 1) := by decide +kernel
theorem dX4_firstOf_5 : decode cX4_firstOf 5 = .ok (.ireturn, 1) := by decide +kernel
theorem dX4_lastOf_0 : decode cX4_lastOf 0 = .ok (.iconst 2, 1) := by decide +kernel
theorem dX4_lastOf_1 : decode cX4_lastOf 1 = .ok (.iconst 2, 1) := by decide +kernel
theorem dX4_lastOf_2 : decode cX4_lastOf 2 = .ok (.iload_n 0, 1) := by decide +kernel
theorem dX4_lastOf_3 : decode cX4_lastOf 3 = .ok (.imul, 1) := by decide +kernel
theorem dX4_lastOf_4 : decode cX4_lastOf 4 = .ok (.iadd, 1) := by decide +kernel
theorem dX4_lastOf_5 : decode cX4_lastOf 5 = .ok (.ireturn, 1) := by decide +kernel
set_option maxRecDepth 20000 in
theorem ggX4_open_X4_firstOf : GoodIn wsX4_open wsX4_firstOf := goodIn_r _ [11] rfl (by decide +kernel)
set_option maxRecDepth 20000 in
theorem gX4_open_X4_firstOf : GoodIn wsX4_open (va_wsS RX4 37 yX4_firstOf wsX4_firstOf) := goodIn_app (goodIn_of _ (by decide +kernel)) ggX4_open_X4_firstOf
set_option maxRecDepth 20000 in
theorem ggX4_open_X2_add : GoodIn wsX4_open wsX2_add := goodIn_r _ [16, 17, 18, 19, 20, 21, 28, 29, 30, 31, 32] rfl (by decide +kernel)
set_option maxRecDepth 20000 in
theorem gX4_open_X2_add : GoodIn wsX4_open (wsV RX4 41 RX2 yX2_add wsX2_add) := goodIn_app (goodIn_of _ (by decide +kernel)) ggX4_open_X2_add
set_option maxRecDepth 20000 in
theorem ggX4_open_X4_lastOf : GoodIn wsX4_open wsX4_lastOf := goodIn_r _ [24] rfl (by decide +kernel)
set_option maxRecDepth 20000 in
theorem gX4_open_X4_lastOf : GoodIn wsX4_open (va_wsS RX4 45 yX4_lastOf wsX4_lastOf) := goodIn_app (goodIn_of _ (by decide +kernel)) ggX4_open_X4_lastOf
theorem dX4_open_0 : decode cX4_open 0 = .ok (.aload_n 0, 1) := by decide +kernel
theorem dX4_open_1 : decode cX4_open 1 = .ok (.iconst 1, 1) := by decide +kernel
theorem dX4_open_2 : decode cX4_open 2 = .ok (.iconst 2, 1) := by decide +kernel
theorem dX4_open_3 : decode cX4_open 3 = .ok (.iload_n 1, 1) := by decide +kernel
theorem dX4_open_4 : decode cX4_open 4 = .ok (.bipush 20, 2) := by decide +kernel
theorem dX4_open_6 : decode cX4_open 6 = .ok (.invokestatic 28, 3) := by decide +kernel
theorem dX4_open_9 : decode cX4_open 9 = .ok (.imul, 1) := by decide +kernel
theorem dX4_open_10 : decode cX4_open 10 = .ok (.iadd, 1) := by decide +kernel
theorem dX4_open_11 : decode cX4_open 11 = .ok (.putfield 24, 3) := by decide +kernel
theorem dX4_open_14 : decode cX4_open 14 = .ok (.aload_n 0, 1) := by decide +kernel
theorem dX4_open_15 : decode cX4_open 15 = .ok (.getfield 16, 3) := by decide +kernel
theorem dX4_open_18 : decode cX4_open 18 = .ok (.iconst 0, 1) := by decide +kernel
theorem dX4_open_19 : decode cX4_open 19 = .ok (.putfield 34, 3) := by decide +kernel
theorem dX4_open_22 : decode cX4_open 22 = .ok (.iconst 0, 1) := by decide +kernel
theorem dX4_open_23 : decode cX4_open 23 = .ok (.istore_n 2, 1) := by decide +kernel
theorem dX4_open_24 : decode cX4_open 24 = .ok (.iload_n 2, 1) := by decide +kernel
theorem dX4_open_25 : decode cX4_open 25 = .ok (.iload_n 1, 1) := by decide +kernel
theorem dX4_open_26 : decode cX4_open 26 = .ok (.if_icmp .ge 53, 3) := by decide +kernel
theorem dX4_open_29 : decode cX4_open 29 = .ok (.aload_n 0, 1) := by decide +kernel
theorem dX4_open_30 : decode cX4_open 30 = .ok (.getfield 16, 3) := by decide +kernel
theorem dX4_open_33 : decode cX4_open 33 = .ok (.iconst 0, 1) := by decide +kernel
theorem dX4_open_34 : decode cX4_open 34 = .ok (.iload_n 2, 1) := by decide +kernel
theorem dX4_open_35 : decode cX4_open 35 = .ok (.invokestatic 37, 3) := by decide +kernel
theorem dX4_open_38 : decode cX4_open 38 = .ok (.iconst 0, 1) := by decide +kernel
theorem dX4_open_39 : decode cX4_open 39 = .ok (.invokevirtual 41, 3) := by decide +kernel
theorem dX4_open_42 : decode cX4_open 42 = .ok (.aload_n 0, 1) := by decide +kernel
theorem dX4_open_43 : decode cX4_open 43 = .ok (.getfield 16, 3) := by decide +kernel
theorem dX4_open_46 : decode cX4_open 46 = .ok (.iload_n 2, 1) := by decide +kernel
theorem dX4_open_47 : decode cX4_open 47 = .ok (.invokestatic 37, 3) := by decide +kernel
theorem dX4_open_50 : decode cX4_open 50 = .ok (.iload_n 2, 1) := by decide +kernel
theorem dX4_open_51 : decode cX4_open 51 = .ok (.invokestatic 45, 3) := by decide +kernel
theorem dX4_open_54 : decode cX4_open 54 = .ok (.iconst 0, 1) := by decide +kernel
theorem dX4_open_55 : decode cX4_open 55 = .ok (.invokevirtual 41, 3) := by decide +kernel
theorem dX4_open_58 : decode cX4_open 58 = .ok (.aload_n 0, 1) := by decide +kernel
theorem dX4_open_59 : decode cX4_open 59 = .ok (.getfield 16, 3) := by decide +kernel
theorem dX4_open_62 : decode cX4_open 62 = .ok (.iload_n 2, 1) := by decide +kernel
theorem dX4_open_63 : decode cX4_open 63 = .ok (.invokestatic 45, 3) := by decide +kernel
theorem dX4_open_66 : decode cX4_open 66 = .ok (.iconst 0, 1) := by decide +kernel
theorem dX4_open_67 : decode cX4_open 67 = .ok (.sipush (-9999), 3) := by decide +kernel
theorem dX4_open_70 : decode cX4_open 70 = .ok (.invokevirtual 41, 3) := by decide +kernel
theorem dX4_open_73 : decode cX4_open 73 = .ok (.iinc 2 1, 3) := by decide +kernel
theorem dX4_open_76 : decode cX4_open 76 = .ok (.goto (-52), 3) := by decide +kernel
theorem dX4_open_79 : decode cX4_open 79 = .ok (.return_, 1) := by decide +kernel
set_option maxRecDepth 20000 in
theorem ggX4_measureFrom_X4_pushAll : GoodIn wsX4_measureFrom wsX4_pushAll := goodIn_r _ [8, 9, 10, 2, 11, 3, 12, 13, 14, 15, 16, 17, 18, 19, 20, 21] rfl (by decide +kernel)
set_option maxRecDepth 20000 in
theorem gX4_measureFrom_X4_pushAll : GoodIn wsX4_measureFrom (wsV RX4 49 RX4 yX4_pushAll wsX4_pushAll) := goodIn_app (goodIn_of _ (by decide +kernel)) ggX4_measureFrom_X4_pushAll
theorem dX4_measureFrom_0 : decode cX4_measureFrom 0 = .ok (.iconst 0, 1) := by decide +kernel
theorem dX4_measureFrom_1 : decode cX4_measureFrom 1 = .ok (.istore_n 2, 1) := by decide +kernel
theorem dX4_measureFrom_2 : decode cX4_measureFrom 2 = .ok (.iload_n 2, 1) := by decide +kernel
theorem dX4_measureFrom_3 : decode cX4_measureFrom 3 = .ok (.aload_n 0, 1) := by decide +kernel
theorem dX4_measureFrom_4 : decode cX4_measureFrom 4 = .ok (.getfield 24, 3) := by decide +kernel
theorem dX4_measureFrom_7 : decode cX4_measureFrom 7 = .ok (.if_icmp .ge 17, 3) := by decide +kernel
theorem dX4_measureFrom_10 : decode cX4_measureFrom 10 = .ok (.aload_n 0, 1) := by decide +kernel
theorem dX4_measureFrom_11 : decode cX4_measureFrom 11 = .ok (.getfield 20, 3) := by decide +kernel
theorem dX4_measureFrom_14 : decode cX4_measureFrom 14 = .ok (.iload_n 2, 1) := by decide +kernel
theorem dX4_measureFrom_15 : decode cX4_measureFrom 15 = .ok (.ldc 48, 2) := by decide +kernel
theorem dX4_measureFrom_17 : decode cX4_measureFrom 17 = .ok (.iastore, 1) := by decide +kernel
theorem dX4_measureFrom_18 : decode cX4_measureFrom 18 = .ok (.iinc 2 1, 3) := by decide +kernel
theorem dX4_measureFrom_21 : decode cX4_measureFrom 21 = .ok (.goto (-19), 3) := by decide +kernel
theorem dX4_measureFrom_24 : decode cX4_measureFrom 24 = .ok (.aload_n 0, 1) := by decide +kernel
theorem dX4_measureFrom_25 : decode cX4_measureFrom 25 = .ok (.getfield 20, 3) := by decide +kernel
theorem dX4_measureFrom_28 : decode cX4_measureFrom 28 = .ok (.iload_n 1, 1) := by decide +kernel
theorem dX4_measureFrom_29 : decode cX4_measureFrom 29 = .ok (.iconst 0, 1) := by decide +kernel
theorem dX4_measureFrom_30 : decode cX4_measureFrom 30 = .ok (.iastore, 1) := by decide +kernel
theorem dX4_measureFrom_31 : decode cX4_measureFrom 31 = .ok (.iconst 0, 1) := by decide +kernel
theorem dX4_measureFrom_32 : decode cX4_measureFrom 32 = .ok (.istore_n 2, 1) := by decide +kernel
theorem dX4_measureFrom_33 : decode cX4_measureFrom 33 = .ok (.iload_n 2, 1) := by decide +kernel
theorem dX4_measureFrom_34 : decode cX4_measureFrom 34 = .ok (.aload_n 0, 1) := by decide +kernel
theorem dX4_measureFrom_35 : decode cX4_measureFrom 35 = .ok (.getfield 24, 3) := by decide +kernel
theorem dX4_measureFrom_38 : decode cX4_measureFrom 38 = .ok (.if_icmp .ge 29, 3) := by decide +kernel
theorem dX4_measureFrom_41 : decode cX4_measureFrom 41 = .ok (.aload_n 0, 1) := by decide +kernel
theorem dX4_measureFrom_42 : decode cX4_measureFrom 42 = .ok (.invokevirtual 49, 3) := by decide +kernel
theorem dX4_measureFrom_45 : decode cX4_measureFrom 45 = .ok (.ifCond .ne 5, 3) := by decide +kernel
theorem dX4_measureFrom_48 : decode cX4_measureFrom 48 = .ok (.iconst 1, 1) := by decide +kernel
theorem dX4_measureFrom_49 : decode cX4_measureFrom 49 = .ok (.ireturn, 1) := by decide +kernel
theorem dX4_measureFrom_50 : decode cX4_measureFrom 50 = .ok (.aload_n 0, 1) := by decide +kernel
theorem dX4_measureFrom_51 : decode cX4_measureFrom 51 = .ok (.getfield 20, 3) := by decide +kernel
theorem dX4_measureFrom_54 : decode cX4_measureFrom 54 = .ok (.iload_n 1, 1) := by decide +kernel
theorem dX4_measureFrom_55 : decode cX4_measureFrom 55 = .ok (.iaload, 1) := by decide +kernel
theorem dX4_measureFrom_56 : decode cX4_measureFrom 56 = .ok (.ifCond .le 5, 3) := by decide +kernel
theorem dX4_measureFrom_59 : decode cX4_measureFrom 59 = .ok (.iconst 0, 1) := by decide +kernel
theorem dX4_measureFrom_60 : decode cX4_measureFrom 60 = .ok (.ireturn, 1) := by decide +kernel
theorem dX4_measureFrom_61 : decode cX4_measureFrom 61 = .ok (.iinc 2 1, 3) := by decide +kernel
theorem dX4_measureFrom_64 : decode cX4_measureFrom 64 = .ok (.goto (-31), 3) := by decide +kernel
theorem dX4_measureFrom_67 : decode cX4_measureFrom 67 = .ok (.iconst 0, 1) := by decide +kernel
theorem dX4_measureFrom_68 : decode cX4_measureFrom 68 = .ok (.ireturn, 1) := by decide +kernel
theorem dX4_pushAll_0 : decode cX4_pushAll 0 = .ok (.iconst 0, 1) := by decide +kernel
theorem dX4_pushAll_1 : decode cX4_pushAll 1 = .ok (.istore_n 1, 1) := by decide +kernel
theorem dX4_pushAll_2 : decode cX4_pushAll 2 = .ok (.iconst 0, 1) := by decide +kernel
theorem dX4_pushAll_3 : decode cX4_pushAll 3 = .ok (.istore_n 2, 1) := by decide +kernel
theorem dX4_pushAll_4 : decode cX4_pushAll 4 = .ok (.iload_n 2, 1) := by decide +kernel
theorem dX4_pushAll_5 : decode cX4_pushAll 5 = .ok (.aload_n 0, 1) := by decide +kernel
theorem dX4_pushAll_6 : decode cX4_pushAll 6 = .ok (.getfield 16, 3) := by decide +kernel
theorem dX4_pushAll_9 : decode cX4_pushAll 9 = .ok (.getfield 34, 3) := by decide +kernel
theorem dX4_pushAll_12 : decode cX4_pushAll 12 = .ok (.if_icmp .ge 85, 3) := by decide +kernel
theorem dX4_pushAll_15 : decode cX4_pushAll 15 = .ok (.aload_n 0, 1) := by decide +kernel
theorem dX4_pushAll_16 : decode cX4_pushAll 16 = .ok (.getfield 20, 3) := by decide +kernel
theorem dX4_pushAll_19 : decode cX4_pushAll 19 = .ok (.aload_n 0, 1) := by decide +kernel
theorem dX4_pushAll_20 : decode cX4_pushAll 20 = .ok (.getfield 16, 3) := by decide +kernel
theorem dX4_pushAll_23 : decode cX4_pushAll 23 = .ok (.getfield 53, 3) := by decide +kernel
theorem dX4_pushAll_26 : decode cX4_pushAll 26 = .ok (.iload_n 2, 1) := by decide +kernel
theorem dX4_pushAll_27 : decode cX4_pushAll 27 = .ok (.iaload, 1) := by decide +kernel
theorem dX4_pushAll_28 : decode cX4_pushAll 28 = .ok (.iaload, 1) := by decide +kernel
theorem dX4_pushAll_29 : decode cX4_pushAll 29 = .ok (.istore_n 3, 1) := by decide +kernel
theorem dX4_pushAll_30 : decode cX4_pushAll 30 = .ok (.iload_n 3, 1) := by decide +kernel
theorem dX4_pushAll_31 : decode cX4_pushAll 31 = .ok (.ldc 48, 2) := by decide +kernel
theorem dX4_pushAll_33 : decode cX4_pushAll 33 = .ok (.if_icmp .eq 58, 3) := by decide +kernel
theorem dX4_pushAll_36 : decode cX4_pushAll 36 = .ok (.iload_n 3, 1) := by decide +kernel
theorem dX4_pushAll_37 : decode cX4_pushAll 37 = .ok (.aload_n 0, 1) := by decide +kernel
theorem dX4_pushAll_38 : decode cX4_pushAll 38 = .ok (.getfield 16, 3) := by decide +kernel
theorem dX4_pushAll_41 : decode cX4_pushAll 41 = .ok (.getfield 56, 3) := by decide +kernel
theorem dX4_pushAll_44 : decode cX4_pushAll 44 = .ok (.iload_n 2, 1) := by decide +kernel
theorem dX4_pushAll_45 : decode cX4_pushAll 45 = .ok (.iaload, 1) := by decide +kernel
theorem dX4_pushAll_46 : decode cX4_pushAll 46 = .ok (.iadd, 1) := by decide +kernel
theorem dX4_pushAll_47 : decode cX4_pushAll 47 = .ok (.aload_n 0, 1) := by decide +kernel
theorem dX4_pushAll_48 : decode cX4_pushAll 48 = .ok (.getfield 20, 3) := by decide +kernel
theorem dX4_pushAll_51 : decode cX4_pushAll 51 = .ok (.aload_n 0, 1) := by decide +kernel
theorem dX4_pushAll_52 : decode cX4_pushAll 52 = .ok (.getfield 16, 3) := by decide +kernel
theorem dX4_pushAll_55 : decode cX4_pushAll 55 = .ok (.getfield 59, 3) := by decide +kernel
theorem dX4_pushAll_58 : decode cX4_pushAll 58 = .ok (.iload_n 2, 1) := by decide +kernel
theorem dX4_pushAll_59 : decode cX4_pushAll 59 = .ok (.iaload, 1) := by decide +kernel
theorem dX4_pushAll_60 : decode cX4_pushAll 60 = .ok (.iaload, 1) := by decide +kernel
theorem dX4_pushAll_61 : decode cX4_pushAll 61 = .ok (.if_icmp .le 30, 3) := by decide +kernel
theorem dX4_pushAll_64 : decode cX4_pushAll 64 = .ok (.aload_n 0, 1) := by decide +kernel
theorem dX4_pushAll_65 : decode cX4_pushAll 65 = .ok (.getfield 20, 3) := by decide +kernel
theorem dX4_pushAll_68 : decode cX4_pushAll 68 = .ok (.aload_n 0, 1) := by decide +kernel
theorem dX4_pushAll_69 : decode cX4_pushAll 69 = .ok (.getfield 16, 3) := by decide +kernel
theorem dX4_pushAll_72 : decode cX4_pushAll 72 = .ok (.getfield 59, 3) := by decide +kernel
theorem dX4_pushAll_75 : decode cX4_pushAll 75 = .ok (.iload_n 2, 1) := by decide +kernel
theorem dX4_pushAll_76 : decode cX4_pushAll 76 = .ok (.iaload, 1) := by decide +kernel
theorem dX4_pushAll_77 : decode cX4_pushAll 77 = .ok (.iload_n 3, 1) := by decide +kernel
theorem dX4_pushAll_78 : decode cX4_pushAll 78 = .ok (.aload_n 0, 1) := by decide +kernel
theorem dX4_pushAll_79 : decode cX4_pushAll 79 = .ok (.getfield 16, 3) := by decide +kernel
theorem dX4_pushAll_82 : decode cX4_pushAll 82 = .ok (.getfield 56, 3) := by decide +kernel
theorem dX4_pushAll_85 : decode cX4_pushAll 85 = .ok (.iload_n 2, 1) := by decide +kernel
theorem dX4_pushAll_86 : decode cX4_pushAll 86 = .ok (.iaload, 1) := by decide +kernel
theorem dX4_pushAll_87 : decode cX4_pushAll 87 = .ok (.iadd, 1) := by decide +kernel
theorem dX4_pushAll_88 : decode cX4_pushAll 88 = .ok (.iastore, 1) := by decide +kernel
theorem dX4_pushAll_89 : decode cX4_pushAll 89 = .ok (.iconst 1, 1) := by decide +kernel
theorem dX4_pushAll_90 : decode cX4_pushAll 90 = .ok (.istore_n 1, 1) := by decide +kernel
theorem dX4_pushAll_91 : decode cX4_pushAll 91 = .ok (.iinc 2 1, 3) := by decide +kernel
theorem dX4_pushAll_94 : decode cX4_pushAll 94 = .ok (.goto (-90), 3) := by decide +kernel
theorem dX4_pushAll_97 : decode cX4_pushAll 97 = .ok (.iload_n 1, 1) := by decide +kernel
theorem dX4_pushAll_98 : decode cX4_pushAll 98 = .ok (.ireturn, 1) := by decide +kernel
theorem dX6_init_0 : decode cX6_init 0 = .ok (.aload_n 0, 1) := by decide +kernel
theorem dX6_init_1 : decode cX6_init 1 = .ok (.invokespecial 3, 3) := by decide +kernel
theorem dX6_init_4 : decode cX6_init 4 = .ok (.aload_n 0, 1) := by decide +kernel
theorem dX6_init_5 : decode cX6_init 5 = .ok (.getstatic 9, 3) := by decide +kernel
theorem dX6_init_8 : decode cX6_init 8 = .ok (.putfield 15, 3) := by decide +kernel
theorem dX6_init_11 : decode cX6_init 11 = .ok (.aload_n 0, 1) := by decide +kernel
theorem dX6_init_12 : decode cX6_init 12 = .ok (.iconst (-1), 1) := by decide +kernel
theorem dX6_init_13 : decode cX6_init 13 = .ok (.putfield 20, 3) := by decide +kernel
theorem dX6_init_16 : decode cX6_init 16 = .ok (.aload_n 0, 1) := by decide +kernel
theorem dX6_init_17 : decode cX6_init 17 = .ok (.iconst (-1), 1) := by decide +kernel
theorem dX6_init_18 : decode cX6_init 18 = .ok (.putfield 24, 3) := by decide +kernel
theorem dX6_init_21 : decode cX6_init 21 = .ok (.aload_n 0, 1) := by decide +kernel
theorem dX6_init_22 : decode cX6_init 22 = .ok (.iconst (-1), 1) := by decide +kernel
theorem dX6_init_23 : decode cX6_init 23 = .ok (.putfield 27, 3) := by decide +kernel
theorem dX6_init_26 : decode cX6_init 26 = .ok (.aload_n 0, 1) := by decide +kernel
theorem dX6_init_27 : decode cX6_init 27 = .ok (.iconst (-1), 1) := by decide +kernel
theorem dX6_init_28 : decode cX6_init 28 = .ok (.putfield 30, 3) := by decide +kernel
theorem dX6_init_31 : decode cX6_init 31 = .ok (.aload_n 0, 1) := by decide +kernel
theorem dX6_init_32 : decode cX6_init 32 = .ok (.iconst 0, 1) := by decide +kernel
theorem dX6_init_33 : decode cX6_init 33 = .ok (.putfield 33, 3) := by decide +kernel
theorem dX6_init_36 : decode cX6_init 36 = .ok (.return_, 1) := by decide +kernel
theorem dX6_begin_0 : decode cX6_begin 0 = .ok (.aload_n 0, 1) := by decide +kernel
theorem dX6_begin_1 : decode cX6_begin 1 = .ok (.iload_n 1, 1) := by decide +kernel
theorem dX6_begin_2 : decode cX6_begin 2 = .ok (.putfield 33, 3) := by decide +kernel
theorem dX6_begin_5 : decode cX6_begin 5 = .ok (.aload_n 0, 1) := by decide +kernel
theorem dX6_begin_6 : decode cX6_begin 6 = .ok (.iload_n 2, 1) := by decide +kernel
theorem dX6_begin_7 : decode cX6_begin 7 = .ok (.putfield 20, 3) := by decide +kernel
theorem dX6_begin_10 : decode cX6_begin 10 = .ok (.aload_n 0, 1) := by decide +kernel
theorem dX6_begin_11 : decode cX6_begin 11 = .ok (.iconst (-1), 1) := by decide +kernel
theorem dX6_begin_12 : decode cX6_begin 12 = .ok (.putfield 24, 3) := by decide +kernel
theorem dX6_begin_15 : decode cX6_begin 15 = .ok (.aload_n 0, 1) := by decide +kernel
theorem dX6_begin_16 : decode cX6_begin 16 = .ok (.iconst (-1), 1) := by decide +kernel
theorem dX6_begin_17 : decode cX6_begin 17 = .ok (.putfield 27, 3) := by decide +kernel
theorem dX6_begin_20 : decode cX6_begin 20 = .ok (.aload_n 0, 1) := by decide +kernel
theorem dX6_begin_21 : decode cX6_begin 21 = .ok (.iconst (-1), 1) := by decide +kernel
theorem dX6_begin_22 : decode cX6_begin 22 = .ok (.putfield 30, 3) := by decide +kernel
theorem dX6_begin_25 : decode cX6_begin 25 = .ok (.return_, 1) := by decide +kernel
set_option maxRecDepth 20000 in
theorem ggX6_putInto_X4_firstOf : GoodIn wsX6_putInto wsX4_firstOf := goodIn_r _ [10] rfl (by decide +kernel)
set_option maxRecDepth 20000 in
theorem gX6_putInto_X4_firstOf : GoodIn wsX6_putInto (va_wsS RX6 36 yX4_firstOf wsX4_firstOf) := goodIn_app (goodIn_of _ (by decide +kernel)) ggX6_putInto_X4_firstOf
set_option maxRecDepth 20000 in
theorem ggX6_putInto_X4_lastOf : GoodIn wsX6_putInto wsX4_lastOf := goodIn_r _ [13] rfl (by decide +kernel)
set_option maxRecDepth 20000 in
theorem gX6_putInto_X4_lastOf : GoodIn wsX6_putInto (va_wsS RX6 42 yX4_lastOf wsX4_lastOf) := goodIn_app (goodIn_of _ (by decide +kernel)) ggX6_putInto_X4_lastOf
set_option maxRecDepth 20000 in
theorem ggX6_putInto_Jx29ce0_ordinal_8abf5 : GoodIn wsX6_putInto wsJx29ce0_ordinal_8abf5 := goodIn_r _ [19, 20] rfl (by decide +kernel)
set_option maxRecDepth 20000 in
theorem gX6_putInto_Jx29ce0_ordinal_8abf5_u51X9 : GoodIn wsX6_putInto (va_wsU RX6 51 RX9 "java/lang/Enum" ⟨"CaseOrder$Token", "ordinal", "()I"⟩ yJx29ce0_ordinal_8abf5 wsJx29ce0_ordinal_8abf5) := goodIn_app (goodIn_of _ (by decide +kernel)) ggX6_putInto_Jx29ce0_ordinal_8abf5
set_option maxRecDepth 20000 in
theorem ggX6_putInto_X2_add : GoodIn wsX6_putInto wsX2_add := goodIn_r _ [25, 26, 27, 28, 29, 30, 42, 43, 44, 45, 46] rfl (by decide +kernel)
set_option maxRecDepth 20000 in
theorem gX6_putInto_X2_add : GoodIn wsX6_putInto (wsV RX6 55 RX2 yX2_add wsX2_add) := goodIn_app (goodIn_of _ (by decide +kernel)) ggX6_putInto_X2_add
set_option maxRecDepth 20000 in
theorem ggX6_putInto_X6_most : GoodIn wsX6_putInto wsX6_most := goodIn_r _ [35, 5, 4, 36, 37, 38, 39, 40, 41] rfl (by decide +kernel)
set_option maxRecDepth 20000 in
theorem gX6_putInto_X6_most : GoodIn wsX6_putInto (wsV RX6 61 RX6 yX6_most wsX6_most) := goodIn_app (goodIn_of _ (by decide +kernel)) ggX6_putInto_X6_most
theorem dX6_putInto_0 : decode cX6_putInto 0 = .ok (.aload_n 0, 1) := by decide +kernel
theorem dX6_putInto_1 : decode cX6_putInto 1 = .ok (.getfield 20, 3) := by decide +kernel
theorem dX6_putInto_4 : decode cX6_putInto 4 = .ok (.invokestatic 36, 3) := by decide +kernel
theorem dX6_putInto_7 : decode cX6_putInto 7 = .ok (.istore_n 2, 1) := by decide +kernel
theorem dX6_putInto_8 : decode cX6_putInto 8 = .ok (.aload_n 0, 1) := by decide +kernel
theorem dX6_putInto_9 : decode cX6_putInto 9 = .ok (.getfield 20, 3) := by decide +kernel
theorem dX6_putInto_12 : decode cX6_putInto 12 = .ok (.invokestatic 42, 3) := by decide +kernel
theorem dX6_putInto_15 : decode cX6_putInto 15 = .ok (.istore_n 3, 1) := by decide +kernel
theorem dX6_putInto_16 : decode cX6_putInto 16 = .ok (.getstatic 45, 3) := by decide +kernel
theorem dX6_putInto_19 : decode cX6_putInto 19 = .ok (.aload_n 0, 1) := by decide +kernel
theorem dX6_putInto_20 : decode cX6_putInto 20 = .ok (.getfield 15, 3) := by decide +kernel
theorem dX6_putInto_23 : decode cX6_putInto 23 = .ok (.invokevirtual 51, 3) := by decide +kernel
theorem dX6_putInto_26 : decode cX6_putInto 26 = .ok (.iaload, 1) := by decide +kernel
theorem dX6_putInto_27 : decode cX6_putInto 27 = .ok (.tableswitch 246 1 7 #[41, 65, 110, 124, 137, 161, 217], 41) := by decide +kernel
theorem dX6_putInto_68 : decode cX6_putInto 68 = .ok (.aload_n 1, 1) := by decide +kernel
theorem dX6_putInto_69 : decode cX6_putInto 69 = .ok (.iconst 0, 1) := by decide +kernel
theorem dX6_putInto_70 : decode cX6_putInto 70 = .ok (.iload_n 2, 1) := by decide +kernel
theorem dX6_putInto_71 : decode cX6_putInto 71 = .ok (.aload_n 0, 1) := by decide +kernel
theorem dX6_putInto_72 : decode cX6_putInto 72 = .ok (.getfield 27, 3) := by decide +kernel
theorem dX6_putInto_75 : decode cX6_putInto 75 = .ok (.invokevirtual 55, 3) := by decide +kernel
theorem dX6_putInto_78 : decode cX6_putInto 78 = .ok (.aload_n 1, 1) := by decide +kernel
theorem dX6_putInto_79 : decode cX6_putInto 79 = .ok (.iload_n 3, 1) := by decide +kernel
theorem dX6_putInto_80 : decode cX6_putInto 80 = .ok (.iconst 0, 1) := by decide +kernel
theorem dX6_putInto_81 : decode cX6_putInto 81 = .ok (.aload_n 0, 1) := by decide +kernel
theorem dX6_putInto_82 : decode cX6_putInto 82 = .ok (.getfield 27, 3) := by decide +kernel
theorem dX6_putInto_85 : decode cX6_putInto 85 = .ok (.ineg, 1) := by decide +kernel
theorem dX6_putInto_86 : decode cX6_putInto 86 = .ok (.invokevirtual 55, 3) := by decide +kernel
theorem dX6_putInto_89 : decode cX6_putInto 89 = .ok (.goto 184, 3) := by decide +kernel
theorem dX6_putInto_92 : decode cX6_putInto 92 = .ok (.aload_n 1, 1) := by decide +kernel
theorem dX6_putInto_93 : decode cX6_putInto 93 = .ok (.iconst 0, 1) := by decide +kernel
theorem dX6_putInto_94 : decode cX6_putInto 94 = .ok (.iload_n 2, 1) := by decide +kernel
theorem dX6_putInto_95 : decode cX6_putInto 95 = .ok (.aload_n 0, 1) := by decide +kernel
theorem dX6_putInto_96 : decode cX6_putInto 96 = .ok (.getfield 27, 3) := by decide +kernel
theorem dX6_putInto_99 : decode cX6_putInto 99 = .ok (.invokevirtual 55, 3) := by decide +kernel
theorem dX6_putInto_102 : decode cX6_putInto 102 = .ok (.aload_n 1, 1) := by decide +kernel
theorem dX6_putInto_103 : decode cX6_putInto 103 = .ok (.iload_n 2, 1) := by decide +kernel
theorem dX6_putInto_104 : decode cX6_putInto 104 = .ok (.iconst 0, 1) := by decide +kernel
theorem dX6_putInto_105 : decode cX6_putInto 105 = .ok (.aload_n 0, 1) := by decide +kernel
theorem dX6_putInto_106 : decode cX6_putInto 106 = .ok (.getfield 27, 3) := by decide +kernel
theorem dX6_putInto_109 : decode cX6_putInto 109 = .ok (.ineg, 1) := by decide +kernel
theorem dX6_putInto_110 : decode cX6_putInto 110 = .ok (.invokevirtual 55, 3) := by decide +kernel
theorem dX6_putInto_113 : decode cX6_putInto 113 = .ok (.aload_n 1, 1) := by decide +kernel
theorem dX6_putInto_114 : decode cX6_putInto 114 = .ok (.iconst 0, 1) := by decide +kernel
theorem dX6_putInto_115 : decode cX6_putInto 115 = .ok (.iload_n 3, 1) := by decide +kernel
theorem dX6_putInto_116 : decode cX6_putInto 116 = .ok (.aload_n 0, 1) := by decide +kernel
theorem dX6_putInto_117 : decode cX6_putInto 117 = .ok (.getfield 30, 3) := by decide +kernel
theorem dX6_putInto_120 : decode cX6_putInto 120 = .ok (.invokevirtual 55, 3) := by decide +kernel
theorem dX6_putInto_123 : decode cX6_putInto 123 = .ok (.aload_n 1, 1) := by decide +kernel
theorem dX6_putInto_124 : decode cX6_putInto 124 = .ok (.iload_n 3, 1) := by decide +kernel
theorem dX6_putInto_125 : decode cX6_putInto 125 = .ok (.iconst 0, 1) := by decide +kernel
theorem dX6_putInto_126 : decode cX6_putInto 126 = .ok (.aload_n 0, 1) := by decide +kernel
theorem dX6_putInto_127 : decode cX6_putInto 127 = .ok (.getfield 30, 3) := by decide +kernel
theorem dX6_putInto_130 : decode cX6_putInto 130 = .ok (.ineg, 1) := by decide +kernel
theorem dX6_putInto_131 : decode cX6_putInto 131 = .ok (.invokevirtual 55, 3) := by decide +kernel
theorem dX6_putInto_134 : decode cX6_putInto 134 = .ok (.goto 139, 3) := by decide +kernel
theorem dX6_putInto_137 : decode cX6_putInto 137 = .ok (.aload_n 1, 1) := by decide +kernel
theorem dX6_putInto_138 : decode cX6_putInto 138 = .ok (.iload_n 3, 1) := by decide +kernel
theorem dX6_putInto_139 : decode cX6_putInto 139 = .ok (.iconst 0, 1) := by decide +kernel
theorem dX6_putInto_140 : decode cX6_putInto 140 = .ok (.aload_n 0, 1) := by decide +kernel
theorem dX6_putInto_141 : decode cX6_putInto 141 = .ok (.getfield 27, 3) := by decide +kernel
theorem dX6_putInto_144 : decode cX6_putInto 144 = .ok (.ineg, 1) := by decide +kernel
theorem dX6_putInto_145 : decode cX6_putInto 145 = .ok (.invokevirtual 55, 3) := by decide +kernel
theorem dX6_putInto_148 : decode cX6_putInto 148 = .ok (.goto 125, 3) := by decide +kernel
theorem dX6_putInto_151 : decode cX6_putInto 151 = .ok (.aload_n 1, 1) := by decide +kernel
theorem dX6_putInto_152 : decode cX6_putInto 152 = .ok (.iconst 0, 1) := by decide +kernel
theorem dX6_putInto_153 : decode cX6_putInto 153 = .ok (.iload_n 2, 1) := by decide +kernel
theorem dX6_putInto_154 : decode cX6_putInto 154 = .ok (.aload_n 0, 1) := by decide +kernel
theorem dX6_putInto_155 : decode cX6_putInto 155 = .ok (.getfield 27, 3) := by decide +kernel
theorem dX6_putInto_158 : decode cX6_putInto 158 = .ok (.invokevirtual 55, 3) := by decide +kernel
theorem dX6_putInto_161 : decode cX6_putInto 161 = .ok (.goto 112, 3) := by decide +kernel
theorem dX6_putInto_164 : decode cX6_putInto 164 = .ok (.aload_n 1, 1) := by decide +kernel
theorem dX6_putInto_165 : decode cX6_putInto 165 = .ok (.iload_n 2, 1) := by decide +kernel
theorem dX6_putInto_166 : decode cX6_putInto 166 = .ok (.iload_n 3, 1) := by decide +kernel
theorem dX6_putInto_167 : decode cX6_putInto 167 = .ok (.aload_n 0, 1) := by decide +kernel
theorem dX6_putInto_168 : decode cX6_putInto 168 = .ok (.getfield 27, 3) := by decide +kernel
theorem dX6_putInto_171 : decode cX6_putInto 171 = .ok (.invokevirtual 55, 3) := by decide +kernel
theorem dX6_putInto_174 : decode cX6_putInto 174 = .ok (.aload_n 1, 1) := by decide +kernel
theorem dX6_putInto_175 : decode cX6_putInto 175 = .ok (.iload_n 3, 1) := by decide +kernel
theorem dX6_putInto_176 : decode cX6_putInto 176 = .ok (.iload_n 2, 1) := by decide +kernel
theorem dX6_putInto_177 : decode cX6_putInto 177 = .ok (.aload_n 0, 1) := by decide +kernel
theorem dX6_putInto_178 : decode cX6_putInto 178 = .ok (.invokevirtual 61, 3) := by decide +kernel
theorem dX6_putInto_181 : decode cX6_putInto 181 = .ok (.ineg, 1) := by decide +kernel
theorem dX6_putInto_182 : decode cX6_putInto 182 = .ok (.invokevirtual 55, 3) := by decide +kernel
theorem dX6_putInto_185 : decode cX6_putInto 185 = .ok (.goto 88, 3) := by decide +kernel
theorem dX6_putInto_188 : decode cX6_putInto 188 = .ok (.aload_n 1, 1) := by decide +kernel
theorem dX6_putInto_189 : decode cX6_putInto 189 = .ok (.iload_n 3, 1) := by decide +kernel
theorem dX6_putInto_190 : decode cX6_putInto 190 = .ok (.aload_n 0, 1) := by decide +kernel
theorem dX6_putInto_191 : decode cX6_putInto 191 = .ok (.getfield 24, 3) := by decide +kernel
theorem dX6_putInto_194 : decode cX6_putInto 194 = .ok (.invokestatic 36, 3) := by decide +kernel
theorem dX6_putInto_197 : decode cX6_putInto 197 = .ok (.aload_n 0, 1) := by decide +kernel
theorem dX6_putInto_198 : decode cX6_putInto 198 = .ok (.getfield 27, 3) := by decide +kernel
theorem dX6_putInto_201 : decode cX6_putInto 201 = .ok (.iconst (-1), 1) := by decide +kernel
theorem dX6_putInto_202 : decode cX6_putInto 202 = .ok (.if_icmp .ne 7, 3) := by decide +kernel
theorem dX6_putInto_205 : decode cX6_putInto 205 = .ok (.iconst 1, 1) := by decide +kernel
theorem dX6_putInto_206 : decode cX6_putInto 206 = .ok (.goto 7, 3) := by decide +kernel
theorem dX6_putInto_209 : decode cX6_putInto 209 = .ok (.aload_n 0, 1) := by decide +kernel
theorem dX6_putInto_210 : decode cX6_putInto 210 = .ok (.getfield 27, 3) := by decide +kernel
theorem dX6_putInto_213 : decode cX6_putInto 213 = .ok (.invokevirtual 55, 3) := by decide +kernel
theorem dX6_putInto_216 : decode cX6_putInto 216 = .ok (.aload_n 0, 1) := by decide +kernel
theorem dX6_putInto_217 : decode cX6_putInto 217 = .ok (.getfield 27, 3) := by decide +kernel
theorem dX6_putInto_220 : decode cX6_putInto 220 = .ok (.iconst (-1), 1) := by decide +kernel
theorem dX6_putInto_221 : decode cX6_putInto 221 = .ok (.if_icmp .eq 52, 3) := by decide +kernel
theorem dX6_putInto_224 : decode cX6_putInto 224 = .ok (.aload_n 1, 1) := by decide +kernel
theorem dX6_putInto_225 : decode cX6_putInto 225 = .ok (.aload_n 0, 1) := by decide +kernel
theorem dX6_putInto_226 : decode cX6_putInto 226 = .ok (.getfield 24, 3) := by decide +kernel
theorem dX6_putInto_229 : decode cX6_putInto 229 = .ok (.invokestatic 36, 3) := by decide +kernel
theorem dX6_putInto_232 : decode cX6_putInto 232 = .ok (.iload_n 3, 1) := by decide +kernel
theorem dX6_putInto_233 : decode cX6_putInto 233 = .ok (.aload_n 0, 1) := by decide +kernel
theorem dX6_putInto_234 : decode cX6_putInto 234 = .ok (.invokevirtual 61, 3) := by decide +kernel
theorem dX6_putInto_237 : decode cX6_putInto 237 = .ok (.ineg, 1) := by decide +kernel
theorem dX6_putInto_238 : decode cX6_putInto 238 = .ok (.invokevirtual 55, 3) := by decide +kernel
theorem dX6_putInto_241 : decode cX6_putInto 241 = .ok (.goto 32, 3) := by decide +kernel
theorem dX6_putInto_244 : decode cX6_putInto 244 = .ok (.aload_n 1, 1) := by decide +kernel
theorem dX6_putInto_245 : decode cX6_putInto 245 = .ok (.aload_n 0, 1) := by decide +kernel
theorem dX6_putInto_246 : decode cX6_putInto 246 = .ok (.getfield 24, 3) := by decide +kernel
theorem dX6_putInto_249 : decode cX6_putInto 249 = .ok (.invokestatic 36, 3) := by decide +kernel
theorem dX6_putInto_252 : decode cX6_putInto 252 = .ok (.iload_n 2, 1) := by decide +kernel
theorem dX6_putInto_253 : decode cX6_putInto 253 = .ok (.iconst 0, 1) := by decide +kernel
theorem dX6_putInto_254 : decode cX6_putInto 254 = .ok (.invokevirtual 55, 3) := by decide +kernel
theorem dX6_putInto_257 : decode cX6_putInto 257 = .ok (.aload_n 1, 1) := by decide +kernel
theorem dX6_putInto_258 : decode cX6_putInto 258 = .ok (.iload_n 3, 1) := by decide +kernel
theorem dX6_putInto_259 : decode cX6_putInto 259 = .ok (.aload_n 0, 1) := by decide +kernel
theorem dX6_putInto_260 : decode cX6_putInto 260 = .ok (.getfield 24, 3) := by decide +kernel
theorem dX6_putInto_263 : decode cX6_putInto 263 = .ok (.invokestatic 42, 3) := by decide +kernel
theorem dX6_putInto_266 : decode cX6_putInto 266 = .ok (.iconst 0, 1) := by decide +kernel
theorem dX6_putInto_267 : decode cX6_putInto 267 = .ok (.invokevirtual 55, 3) := by decide +kernel
theorem dX6_putInto_270 : decode cX6_putInto 270 = .ok (.goto 3, 3) := by decide +kernel
theorem dX6_putInto_273 : decode cX6_putInto 273 = .ok (.return_, 1) := by decide +kernel
theorem dX6_most_0 : decode cX6_most 0 = .ok (.aload_n 0, 1) := by decide +kernel
theorem dX6_most_1 : decode cX6_most 1 = .ok (.getfield 30, 3) := by decide +kernel
theorem dX6_most_4 : decode cX6_most 4 = .ok (.iconst (-1), 1) := by decide +kernel
theorem dX6_most_5 : decode cX6_most 5 = .ok (.if_icmp .ne 10, 3) := by decide +kernel
theorem dX6_most_8 : decode cX6_most 8 = .ok (.aload_n 0, 1) := by decide +kernel
theorem dX6_most_9 : decode cX6_most 9 = .ok (.getfield 27, 3) := by decide +kernel
theorem dX6_most_12 : decode cX6_most 12 = .ok (.goto 7, 3) := by decide +kernel
theorem dX6_most_15 : decode cX6_most 15 = .ok (.aload_n 0, 1) := by decide +kernel
theorem dX6_most_16 : decode cX6_most 16 = .ok (.getfield 30, 3) := by decide +kernel
theorem dX6_most_19 : decode cX6_most 19 = .ok (.ireturn, 1) := by decide +kernel
theorem dX7_init_0 : decode cX7_init 0 = .ok (.aload_n 0, 1) := by decide +kernel
theorem dX7_init_1 : decode cX7_init 1 = .ok (.invokespecial 3, 3) := by decide +kernel
theorem dX7_init_4 : decode cX7_init 4 = .ok (.aload_n 0, 1) := by decide +kernel
theorem dX7_init_5 : decode cX7_init 5 = .ok (.sipush 440, 3) := by decide +kernel
theorem dX7_init_8 : decode cX7_init 8 = .ok (.newarray .byte, 2) := by decide +kernel
theorem dX7_init_10 : decode cX7_init 10 = .ok (.putfield 9, 3) := by decide +kernel
theorem dX7_init_13 : decode cX7_init 13 = .ok (.aload_n 0, 1) := by decide +kernel
theorem dX7_init_14 : decode cX7_init 14 = .ok (.iconst 0, 1) := by decide +kernel
theorem dX7_init_15 : decode cX7_init 15 = .ok (.putfield 15, 3) := by decide +kernel
theorem dX7_init_18 : decode cX7_init 18 = .ok (.return_, 1) := by decide +kernel
theorem dX7_putNumber_0 : decode cX7_putNumber 0 = .ok (.bipush 24, 2) := by decide +kernel
theorem dX7_putNumber_2 : decode cX7_putNumber 2 = .ok (.istore_n 2, 1) := by decide +kernel
theorem dX7_putNumber_3 : decode cX7_putNumber 3 = .ok (.iload_n 2, 1) := by decide +kernel
theorem dX7_putNumber_4 : decode cX7_putNumber 4 = .ok (.ifCond .lt 42, 3) := by decide +kernel
theorem dX7_putNumber_7 : decode cX7_putNumber 7 = .ok (.aload_n 0, 1) := by decide +kernel
theorem dX7_putNumber_8 : decode cX7_putNumber 8 = .ok (.getfield 15, 3) := by decide +kernel
theorem dX7_putNumber_11 : decode cX7_putNumber 11 = .ok (.sipush 440, 3) := by decide +kernel
theorem dX7_putNumber_14 : decode cX7_putNumber 14 = .ok (.if_icmp .ge 26, 3) := by decide +kernel
theorem dX7_putNumber_17 : decode cX7_putNumber 17 = .ok (.aload_n 0, 1) := by decide +kernel
theorem dX7_putNumber_18 : decode cX7_putNumber 18 = .ok (.getfield 9, 3) := by decide +kernel
theorem dX7_putNumber_21 : decode cX7_putNumber 21 = .ok (.aload_n 0, 1) := by decide +kernel
theorem dX7_putNumber_22 : decode cX7_putNumber 22 = .ok (.getfield 15, 3) := by decide +kernel
theorem dX7_putNumber_25 : decode cX7_putNumber 25 = .ok (.iload_n 1, 1) := by decide +kernel
theorem dX7_putNumber_26 : decode cX7_putNumber 26 = .ok (.iload_n 2, 1) := by decide +kernel
theorem dX7_putNumber_27 : decode cX7_putNumber 27 = .ok (.ishr, 1) := by decide +kernel
theorem dX7_putNumber_28 : decode cX7_putNumber 28 = .ok (.i2b, 1) := by decide +kernel
theorem dX7_putNumber_29 : decode cX7_putNumber 29 = .ok (.bastore, 1) := by decide +kernel
theorem dX7_putNumber_30 : decode cX7_putNumber 30 = .ok (.aload_n 0, 1) := by decide +kernel
theorem dX7_putNumber_31 : decode cX7_putNumber 31 = .ok (.dup, 1) := by decide +kernel
theorem dX7_putNumber_32 : decode cX7_putNumber 32 = .ok (.getfield 15, 3) := by decide +kernel
theorem dX7_putNumber_35 : decode cX7_putNumber 35 = .ok (.iconst 1, 1) := by decide +kernel
theorem dX7_putNumber_36 : decode cX7_putNumber 36 = .ok (.iadd, 1) := by decide +kernel
theorem dX7_putNumber_37 : decode cX7_putNumber 37 = .ok (.putfield 15, 3) := by decide +kernel
theorem dX7_putNumber_40 : decode cX7_putNumber 40 = .ok (.iinc 2 (-8), 3) := by decide +kernel
theorem dX7_putNumber_43 : decode cX7_putNumber 43 = .ok (.goto (-40), 3) := by decide +kernel
theorem dX7_putNumber_46 : decode cX7_putNumber 46 = .ok (.return_, 1) := by decide +kernel
theorem dX7_isBlank_0 : decode cX7_isBlank 0 = .ok (.aload_n 0, 1) := by decide +kernel
theorem dX7_isBlank_1 : decode cX7_isBlank 1 = .ok (.getfield 9, 3) := by decide +kernel
theorem dX7_isBlank_4 : decode cX7_isBlank 4 = .ok (.iload_n 1, 1) := by decide +kernel
theorem dX7_isBlank_5 : decode cX7_isBlank 5 = .ok (.baload, 1) := by decide +kernel
theorem dX7_isBlank_6 : decode cX7_isBlank 6 = .ok (.bipush 32, 2) := by decide +kernel
theorem dX7_isBlank_8 : decode cX7_isBlank 8 = .ok (.if_icmp .eq 14, 3) := by decide +kernel
theorem dX7_isBlank_11 : decode cX7_isBlank 11 = .ok (.aload_n 0, 1) := by decide +kernel
theorem dX7_isBlank_12 : decode cX7_isBlank 12 = .ok (.getfield 9, 3) := by decide +kernel
theorem dX7_isBlank_15 : decode cX7_isBlank 15 = .ok (.iload_n 1, 1) := by decide +kernel
theorem dX7_isBlank_16 : decode cX7_isBlank 16 = .ok (.baload, 1) := by decide +kernel
theorem dX7_isBlank_17 : decode cX7_isBlank 17 = .ok (.bipush 10, 2) := by decide +kernel
theorem dX7_isBlank_19 : decode cX7_isBlank 19 = .ok (.if_icmp .ne 7, 3) := by decide +kernel
theorem dX7_isBlank_22 : decode cX7_isBlank 22 = .ok (.iconst 1, 1) := by decide +kernel
theorem dX7_isBlank_23 : decode cX7_isBlank 23 = .ok (.goto 4, 3) := by decide +kernel
theorem dX7_isBlank_26 : decode cX7_isBlank 26 = .ok (.iconst 0, 1) := by decide +kernel
theorem dX7_isBlank_27 : decode cX7_isBlank 27 = .ok (.ireturn, 1) := by decide +kernel
theorem dX7_isLetter_0 : decode cX7_isLetter 0 = .ok (.aload_n 0, 1) := by decide +kernel
theorem dX7_isLetter_1 : decode cX7_isLetter 1 = .ok (.getfield 9, 3) := by decide +kernel
theorem dX7_isLetter_4 : decode cX7_isLetter 4 = .ok (.iload_n 1, 1) := by decide +kernel
theorem dX7_isLetter_5 : decode cX7_isLetter 5 = .ok (.baload, 1) := by decide +kernel
theorem dX7_isLetter_6 : decode cX7_isLetter 6 = .ok (.bipush 97, 2) := by decide +kernel
theorem dX7_isLetter_8 : decode cX7_isLetter 8 = .ok (.if_icmp .lt 18, 3) := by decide +kernel
theorem dX7_isLetter_11 : decode cX7_isLetter 11 = .ok (.aload_n 0, 1) := by decide +kernel
theorem dX7_isLetter_12 : decode cX7_isLetter 12 = .ok (.getfield 9, 3) := by decide +kernel
theorem dX7_isLetter_15 : decode cX7_isLetter 15 = .ok (.iload_n 1, 1) := by decide +kernel
theorem dX7_isLetter_16 : decode cX7_isLetter 16 = .ok (.baload, 1) := by decide +kernel
theorem dX7_isLetter_17 : decode cX7_isLetter 17 = .ok (.bipush 122, 2) := by decide +kernel
theorem dX7_isLetter_19 : decode cX7_isLetter 19 = .ok (.if_icmp .gt 7, 3) := by decide +kernel
theorem dX7_isLetter_22 : decode cX7_isLetter 22 = .ok (.iconst 1, 1) := by decide +kernel
theorem dX7_isLetter_23 : decode cX7_isLetter 23 = .ok (.goto 4, 3) := by decide +kernel
theorem dX7_isLetter_26 : decode cX7_isLetter 26 = .ok (.iconst 0, 1) := by decide +kernel
theorem dX7_isLetter_27 : decode cX7_isLetter 27 = .ok (.ireturn, 1) := by decide +kernel
theorem dX7_isDigit_0 : decode cX7_isDigit 0 = .ok (.aload_n 0, 1) := by decide +kernel
theorem dX7_isDigit_1 : decode cX7_isDigit 1 = .ok (.getfield 9, 3) := by decide +kernel
theorem dX7_isDigit_4 : decode cX7_isDigit 4 = .ok (.iload_n 1, 1) := by decide +kernel
theorem dX7_isDigit_5 : decode cX7_isDigit 5 = .ok (.baload, 1) := by decide +kernel
theorem dX7_isDigit_6 : decode cX7_isDigit 6 = .ok (.bipush 48, 2) := by decide +kernel
theorem dX7_isDigit_8 : decode cX7_isDigit 8 = .ok (.if_icmp .lt 18, 3) := by decide +kernel
theorem dX7_isDigit_11 : decode cX7_isDigit 11 = .ok (.aload_n 0, 1) := by decide +kernel
theorem dX7_isDigit_12 : decode cX7_isDigit 12 = .ok (.getfield 9, 3) := by decide +kernel
theorem dX7_isDigit_15 : decode cX7_isDigit 15 = .ok (.iload_n 1, 1) := by decide +kernel
theorem dX7_isDigit_16 : decode cX7_isDigit 16 = .ok (.baload, 1) := by decide +kernel
theorem dX7_isDigit_17 : decode cX7_isDigit 17 = .ok (.bipush 57, 2) := by decide +kernel
theorem dX7_isDigit_19 : decode cX7_isDigit 19 = .ok (.if_icmp .gt 7, 3) := by decide +kernel
theorem dX7_isDigit_22 : decode cX7_isDigit 22 = .ok (.iconst 1, 1) := by decide +kernel
theorem dX7_isDigit_23 : decode cX7_isDigit 23 = .ok (.goto 4, 3) := by decide +kernel
theorem dX7_isDigit_26 : decode cX7_isDigit 26 = .ok (.iconst 0, 1) := by decide +kernel
theorem dX7_isDigit_27 : decode cX7_isDigit 27 = .ok (.ireturn, 1) := by decide +kernel
set_option maxRecDepth 20000 in
theorem ggX7_firstSolid_X7_isBlank : GoodIn wsX7_firstSolid wsX7_isBlank := goodIn_r _ [6, 7, 8, 9] rfl (by decide +kernel)
set_option maxRecDepth 20000 in
theorem gX7_firstSolid_X7_isBlank : GoodIn wsX7_firstSolid (wsV RX7 19 RX7 yX7_isBlank wsX7_isBlank) := goodIn_app (goodIn_of _ (by decide +kernel)) ggX7_firstSolid_X7_isBlank
theorem dX7_firstSolid_0 : decode cX7_firstSolid 0 = .ok (.iconst 0, 1) := by decide +kernel
theorem dX7_firstSolid_1 : decode cX7_firstSolid 1 = .ok (.istore_n 1, 1) := by decide +kernel
theorem dX7_firstSolid_2 : decode cX7_firstSolid 2 = .ok (.iload_n 1, 1) := by decide +kernel
theorem dX7_firstSolid_3 : decode cX7_firstSolid 3 = .ok (.aload_n 0, 1) := by decide +kernel
theorem dX7_firstSolid_4 : decode cX7_firstSolid 4 = .ok (.getfield 15, 3) := by decide +kernel
theorem dX7_firstSolid_7 : decode cX7_firstSolid 7 = .ok (.if_icmp .ge 19, 3) := by decide +kernel
theorem dX7_firstSolid_10 : decode cX7_firstSolid 10 = .ok (.aload_n 0, 1) := by decide +kernel
theorem dX7_firstSolid_11 : decode cX7_firstSolid 11 = .ok (.iload_n 1, 1) := by decide +kernel
theorem dX7_firstSolid_12 : decode cX7_firstSolid 12 = .ok (.invokevirtual 19, 3) := by decide +kernel
theorem dX7_firstSolid_15 : decode cX7_firstSolid 15 = .ok (.ifCond .ne 5, 3) := by decide +kernel
theorem dX7_firstSolid_18 : decode cX7_firstSolid 18 = .ok (.iload_n 1, 1) := by decide +kernel
theorem dX7_firstSolid_19 : decode cX7_firstSolid 19 = .ok (.ireturn, 1) := by decide +kernel
theorem dX7_firstSolid_20 : decode cX7_firstSolid 20 = .ok (.iinc 1 1, 3) := by decide +kernel
theorem dX7_firstSolid_23 : decode cX7_firstSolid 23 = .ok (.goto (-21), 3) := by decide +kernel
theorem dX7_firstSolid_26 : decode cX7_firstSolid 26 = .ok (.aload_n 0, 1) := by decide +kernel
theorem dX7_firstSolid_27 : decode cX7_firstSolid 27 = .ok (.getfield 15, 3) := by decide +kernel
theorem dX7_firstSolid_30 : decode cX7_firstSolid 30 = .ok (.ireturn, 1) := by decide +kernel
set_option maxRecDepth 20000 in
theorem ggX7_afterSolid_X7_isBlank : GoodIn wsX7_afterSolid wsX7_isBlank := goodIn_r _ [6, 7, 8, 9] rfl (by decide +kernel)
set_option maxRecDepth 20000 in
theorem gX7_afterSolid_X7_isBlank : GoodIn wsX7_afterSolid (wsV RX7 19 RX7 yX7_isBlank wsX7_isBlank) := goodIn_app (goodIn_of _ (by decide +kernel)) ggX7_afterSolid_X7_isBlank
theorem dX7_afterSolid_0 : decode cX7_afterSolid 0 = .ok (.aload_n 0, 1) := by decide +kernel
theorem dX7_afterSolid_1 : decode cX7_afterSolid 1 = .ok (.getfield 15, 3) := by decide +kernel
theorem dX7_afterSolid_4 : decode cX7_afterSolid 4 = .ok (.istore_n 2, 1) := by decide +kernel
theorem dX7_afterSolid_5 : decode cX7_afterSolid 5 = .ok (.iload_n 2, 1) := by decide +kernel
theorem dX7_afterSolid_6 : decode cX7_afterSolid 6 = .ok (.iload_n 1, 1) := by decide +kernel
theorem dX7_afterSolid_7 : decode cX7_afterSolid 7 = .ok (.if_icmp .le 21, 3) := by decide +kernel
theorem dX7_afterSolid_10 : decode cX7_afterSolid 10 = .ok (.aload_n 0, 1) := by decide +kernel
theorem dX7_afterSolid_11 : decode cX7_afterSolid 11 = .ok (.iload_n 2, 1) := by decide +kernel
theorem dX7_afterSolid_12 : decode cX7_afterSolid 12 = .ok (.iconst 1, 1) := by decide +kernel
theorem dX7_afterSolid_13 : decode cX7_afterSolid 13 = .ok (.isub, 1) := by decide +kernel
theorem dX7_afterSolid_14 : decode cX7_afterSolid 14 = .ok (.invokevirtual 19, 3) := by decide +kernel
theorem dX7_afterSolid_17 : decode cX7_afterSolid 17 = .ok (.ifCond .ne 5, 3) := by decide +kernel
theorem dX7_afterSolid_20 : decode cX7_afterSolid 20 = .ok (.iload_n 2, 1) := by decide +kernel
theorem dX7_afterSolid_21 : decode cX7_afterSolid 21 = .ok (.ireturn, 1) := by decide +kernel
theorem dX7_afterSolid_22 : decode cX7_afterSolid 22 = .ok (.iinc 2 (-1), 3) := by decide +kernel
theorem dX7_afterSolid_25 : decode cX7_afterSolid 25 = .ok (.goto (-20), 3) := by decide +kernel
theorem dX7_afterSolid_28 : decode cX7_afterSolid 28 = .ok (.iload_n 1, 1) := by decide +kernel
theorem dX7_afterSolid_29 : decode cX7_afterSolid 29 = .ok (.ireturn, 1) := by decide +kernel
set_option maxRecDepth 20000 in
theorem ggX8_init_X6_init : GoodIn wsX8_init wsX6_init := goodIn_r _ [10, 11, 2, 3, 12, 13, 14, 15, 16, 17, 18, 21, 22, 23, 24, 25, 26] rfl (by decide +kernel)
set_option maxRecDepth 20000 in
theorem gX8_init_X6_init_n21 : GoodIn wsX8_init (wsX6_init) := ggX8_init_X6_init
theorem dX8_init_0 : decode cX8_init 0 = .ok (.aload_n 0, 1) := by decide +kernel
theorem dX8_init_1 : decode cX8_init 1 = .ok (.invokespecial 3, 3) := by decide +kernel
theorem dX8_init_4 : decode cX8_init 4 = .ok (.aload_n 0, 1) := by decide +kernel
theorem dX8_init_5 : decode cX8_init 5 = .ok (.bipush 12, 2) := by decide +kernel
theorem dX8_init_7 : decode cX8_init 7 = .ok (.anewarray 9, 3) := by decide +kernel
theorem dX8_init_10 : decode cX8_init 10 = .ok (.putfield 11, 3) := by decide +kernel
theorem dX8_init_13 : decode cX8_init 13 = .ok (.aload_n 0, 1) := by decide +kernel
theorem dX8_init_14 : decode cX8_init 14 = .ok (.iconst 0, 1) := by decide +kernel
theorem dX8_init_15 : decode cX8_init 15 = .ok (.putfield 17, 3) := by decide +kernel
theorem dX8_init_18 : decode cX8_init 18 = .ok (.iconst 0, 1) := by decide +kernel
theorem dX8_init_19 : decode cX8_init 19 = .ok (.istore_n 1, 1) := by decide +kernel
theorem dX8_init_20 : decode cX8_init 20 = .ok (.iload_n 1, 1) := by decide +kernel
theorem dX8_init_21 : decode cX8_init 21 = .ok (.bipush 12, 2) := by decide +kernel
theorem dX8_init_23 : decode cX8_init 23 = .ok (.if_icmp .ge 22, 3) := by decide +kernel
theorem dX8_init_26 : decode cX8_init 26 = .ok (.aload_n 0, 1) := by decide +kernel
theorem dX8_init_27 : decode cX8_init 27 = .ok (.getfield 11, 3) := by decide +kernel
theorem dX8_init_30 : decode cX8_init 30 = .ok (.iload_n 1, 1) := by decide +kernel
theorem dX8_init_31 : decode cX8_init 31 = .ok (.new 9, 3) := by decide +kernel
theorem dX8_init_34 : decode cX8_init 34 = .ok (.dup, 1) := by decide +kernel
theorem dX8_init_35 : decode cX8_init 35 = .ok (.invokespecial 21, 3) := by decide +kernel
theorem dX8_init_38 : decode cX8_init 38 = .ok (.aastore, 1) := by decide +kernel
theorem dX8_init_39 : decode cX8_init 39 = .ok (.iinc 1 1, 3) := by decide +kernel
theorem dX8_init_42 : decode cX8_init 42 = .ok (.goto (-22), 3) := by decide +kernel
theorem dX8_init_45 : decode cX8_init 45 = .ok (.return_, 1) := by decide +kernel
theorem dX8_has_0 : decode cX8_has 0 = .ok (.iload_n 1, 1) := by decide +kernel
theorem dX8_has_1 : decode cX8_has 1 = .ok (.ifCond .lt 15, 3) := by decide +kernel
theorem dX8_has_4 : decode cX8_has 4 = .ok (.iload_n 1, 1) := by decide +kernel
theorem dX8_has_5 : decode cX8_has 5 = .ok (.aload_n 0, 1) := by decide +kernel
theorem dX8_has_6 : decode cX8_has 6 = .ok (.getfield 17, 3) := by decide +kernel
theorem dX8_has_9 : decode cX8_has 9 = .ok (.if_icmp .ge 7, 3) := by decide +kernel
theorem dX8_has_12 : decode cX8_has 12 = .ok (.iconst 1, 1) := by decide +kernel
theorem dX8_has_13 : decode cX8_has 13 = .ok (.goto 4, 3) := by decide +kernel
theorem dX8_has_16 : decode cX8_has 16 = .ok (.iconst 0, 1) := by decide +kernel
theorem dX8_has_17 : decode cX8_has 17 = .ok (.ireturn, 1) := by decide +kernel
