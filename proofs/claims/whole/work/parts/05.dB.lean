set_option maxRecDepth 20000 in
theorem ggX5_init_X10_init : GoodIn wsX5_init wsX10_init := goodIn_r _ [15, 16, 2, 3, 17, 18, 19, 20, 21, 22, 23, 24, 25, 26, 27] rfl (by decide +kernel)
set_option maxRecDepth 20000 in
theorem gX5_init_X10_init : GoodIn wsX5_init (wsX10_init) := ggX5_init_X10_init
theorem dX5_init_0 : decode cX5_init 0 = .ok (.aload_n 0, 1) := by decide +kernel
theorem dX5_init_1 : decode cX5_init 1 = .ok (.invokespecial 3, 3) := by decide +kernel
theorem dX5_init_4 : decode cX5_init 4 = .ok (.aload_n 0, 1) := by decide +kernel
theorem dX5_init_5 : decode cX5_init 5 = .ok (.new 9, 3) := by decide +kernel
theorem dX5_init_8 : decode cX5_init 8 = .ok (.dup, 1) := by decide +kernel
theorem dX5_init_9 : decode cX5_init 9 = .ok (.invokespecial 11, 3) := by decide +kernel
theorem dX5_init_12 : decode cX5_init 12 = .ok (.putfield 12, 3) := by decide +kernel
theorem dX5_init_15 : decode cX5_init 15 = .ok (.aload_n 0, 1) := by decide +kernel
theorem dX5_init_16 : decode cX5_init 16 = .ok (.iconst 0, 1) := by decide +kernel
theorem dX5_init_17 : decode cX5_init 17 = .ok (.putfield 18, 3) := by decide +kernel
theorem dX5_init_20 : decode cX5_init 20 = .ok (.aload_n 0, 1) := by decide +kernel
theorem dX5_init_21 : decode cX5_init 21 = .ok (.iconst 0, 1) := by decide +kernel
theorem dX5_init_22 : decode cX5_init 22 = .ok (.putfield 22, 3) := by decide +kernel
theorem dX5_init_25 : decode cX5_init 25 = .ok (.aload_n 0, 1) := by decide +kernel
theorem dX5_init_26 : decode cX5_init 26 = .ok (.iconst 0, 1) := by decide +kernel
theorem dX5_init_27 : decode cX5_init 27 = .ok (.putfield 25, 3) := by decide +kernel
theorem dX5_init_30 : decode cX5_init 30 = .ok (.aload_n 0, 1) := by decide +kernel
theorem dX5_init_31 : decode cX5_init 31 = .ok (.aload_n 1, 1) := by decide +kernel
theorem dX5_init_32 : decode cX5_init 32 = .ok (.putfield 28, 3) := by decide +kernel
theorem dX5_init_35 : decode cX5_init 35 = .ok (.aload_n 0, 1) := by decide +kernel
theorem dX5_init_36 : decode cX5_init 36 = .ok (.aload_n 2, 1) := by decide +kernel
theorem dX5_init_37 : decode cX5_init 37 = .ok (.putfield 32, 3) := by decide +kernel
theorem dX5_init_40 : decode cX5_init 40 = .ok (.return_, 1) := by decide +kernel
set_option maxRecDepth 20000 in
theorem ggX5_read_X10_cut : GoodIn wsX5_read wsX10_cut := goodIn_r _ [14, 15, 16, 17, 18, 19, 20, 21, 22, 23, 24, 25, 26, 27, 28, 29, 13, 30, 31, 32, 33, 34, 35, 36, 37, 38, 39, 40, 41, 42, 43, 44, 45, 46, 47, 48, 49, 50, 51, 52, 53, 54, 55, 56, 57, 58, 59, 60, 61, 62, 63, 64, 65, 66, 67, 68, 69, 70, 71, 72, 73, 74, 75, 76, 77, 78, 79, 80, 81, 82, 83, 84, 85, 86, 87, 88, 89, 90, 91, 92, 93, 94, 95, 96, 97, 98, 99, 100, 101, 102, 103, 104, 105, 106, 107, 108, 109, 110, 111, 112, 223, 224, 225, 226, 227, 228] rfl (by decide +kernel)
set_option maxRecDepth 20000 in
theorem gX5_read_X10_cut : GoodIn wsX5_read (wsV RX5 36 RX10 yX10_cut wsX10_cut) := goodIn_app (goodIn_of _ (by decide +kernel)) ggX5_read_X10_cut
set_option maxRecDepth 20000 in
theorem ggX5_read_X5_is : GoodIn wsX5_read wsX5_is := goodIn_r _ [117, 1, 3, 215, 216, 217, 218, 219, 220, 225, 226, 227, 228] rfl (by decide +kernel)
set_option maxRecDepth 20000 in
theorem gX5_read_X5_is : GoodIn wsX5_read (wsV RX5 51 RX5 yX5_is wsX5_is) := goodIn_app (goodIn_of _ (by decide +kernel)) ggX5_read_X5_is
set_option maxRecDepth 20000 in
theorem ggX5_read_X5_readBeginning : GoodIn wsX5_read wsX5_readBeginning := goodIn_r _ [121, 122, 9, 2, 1, 3, 7, 113, 114, 115, 116, 117, 123, 124, 125, 126, 4, 127, 128, 129, 130, 131, 132, 133, 134, 135, 136, 137, 138, 139, 140, 141, 142, 143, 144, 145, 146, 147, 148, 149, 150, 151, 152, 153, 154, 155, 156, 157, 158, 215, 216, 217, 218, 219, 220, 225, 226, 227, 228, 221, 222, 229, 230, 231, 232, 223, 224, 233, 234, 235, 236, 237, 238] rfl (by decide +kernel)
set_option maxRecDepth 20000 in
theorem gX5_read_X5_readBeginning : GoodIn wsX5_read (wsV RX5 55 RX5 yX5_readBeginning wsX5_readBeginning) := goodIn_app (goodIn_of _ (by decide +kernel)) ggX5_read_X5_readBeginning
set_option maxRecDepth 20000 in
theorem ggX5_read_X5_readRest : GoodIn wsX5_read wsX5_readRest := goodIn_r _ [162, 1, 3, 163, 164, 165, 123, 124, 125, 116, 126, 4, 127, 155, 156, 157, 158, 166, 167, 168, 169, 170, 171, 172, 173, 174, 175, 176, 177, 178, 179, 180, 181, 182, 2, 183, 113, 114, 115, 117, 184, 185, 186, 187, 188, 189, 190, 191, 192, 193, 194, 195, 196, 197, 198, 199, 200, 201, 202, 122, 9, 203, 204, 128, 129, 130, 131, 132, 133, 134, 135, 136, 137, 138, 139, 140, 141, 142, 143, 144, 205, 206, 207, 208, 209, 215, 216, 217, 218, 219, 220, 225, 226, 227, 228, 233, 234, 235, 236, 237, 238, 223, 224, 229, 230, 231, 232] rfl (by decide +kernel)
set_option maxRecDepth 20000 in
theorem gX5_read_X5_readRest : GoodIn wsX5_read (wsV RX5 63 RX5 yX5_readRest wsX5_readRest) := goodIn_app (goodIn_of _ (by decide +kernel)) ggX5_read_X5_readRest
set_option maxRecDepth 20000 in
theorem ggX5_read_X5_refuse : GoodIn wsX5_read wsX5_refuse := goodIn_r _ [126, 4, 1, 3, 127, 215, 216, 217, 218, 219, 220, 225, 226, 227, 228] rfl (by decide +kernel)
set_option maxRecDepth 20000 in
theorem gX5_read_X5_refuse : GoodIn wsX5_read (wsV RX5 72 RX5 yX5_refuse wsX5_refuse) := goodIn_app (goodIn_of _ (by decide +kernel)) ggX5_read_X5_refuse
set_option maxRecDepth 20000 in
theorem ggX5_read_X3_settle : GoodIn wsX5_read wsX3_settle := goodIn_r _ [213, 133, 214, 229, 230, 231, 232] rfl (by decide +kernel)
set_option maxRecDepth 20000 in
theorem gX5_read_X3_settle : GoodIn wsX5_read (wsV RX5 76 RX3 yX3_settle wsX3_settle) := goodIn_app (goodIn_of _ (by decide +kernel)) ggX5_read_X3_settle
theorem dX5_read_0 : decode cX5_read 0 = .ok (.aload_n 0, 1) := by decide +kernel
theorem dX5_read_1 : decode cX5_read 1 = .ok (.getfield 12, 3) := by decide +kernel
theorem dX5_read_4 : decode cX5_read 4 = .ok (.aload_n 0, 1) := by decide +kernel
theorem dX5_read_5 : decode cX5_read 5 = .ok (.getfield 28, 3) := by decide +kernel
theorem dX5_read_8 : decode cX5_read 8 = .ok (.invokevirtual 36, 3) := by decide +kernel
theorem dX5_read_11 : decode cX5_read 11 = .ok (.aload_n 0, 1) := by decide +kernel
theorem dX5_read_12 : decode cX5_read 12 = .ok (.iconst 0, 1) := by decide +kernel
theorem dX5_read_13 : decode cX5_read 13 = .ok (.putfield 18, 3) := by decide +kernel
theorem dX5_read_16 : decode cX5_read 16 = .ok (.aload_n 0, 1) := by decide +kernel
theorem dX5_read_17 : decode cX5_read 17 = .ok (.iconst 0, 1) := by decide +kernel
theorem dX5_read_18 : decode cX5_read 18 = .ok (.putfield 22, 3) := by decide +kernel
theorem dX5_read_21 : decode cX5_read 21 = .ok (.aload_n 1, 1) := by decide +kernel
theorem dX5_read_22 : decode cX5_read 22 = .ok (.iconst 0, 1) := by decide +kernel
theorem dX5_read_23 : decode cX5_read 23 = .ok (.putfield 40, 3) := by decide +kernel
theorem dX5_read_26 : decode cX5_read 26 = .ok (.iconst 0, 1) := by decide +kernel
theorem dX5_read_27 : decode cX5_read 27 = .ok (.istore_n 2, 1) := by decide +kernel
theorem dX5_read_28 : decode cX5_read 28 = .ok (.iload_n 2, 1) := by decide +kernel
theorem dX5_read_29 : decode cX5_read 29 = .ok (.bipush 12, 2) := by decide +kernel
theorem dX5_read_31 : decode cX5_read 31 = .ok (.if_icmp .gt 55, 3) := by decide +kernel
theorem dX5_read_34 : decode cX5_read 34 = .ok (.aload_n 0, 1) := by decide +kernel
theorem dX5_read_35 : decode cX5_read 35 = .ok (.getfield 22, 3) := by decide +kernel
theorem dX5_read_38 : decode cX5_read 38 = .ok (.ifCond .ne 48, 3) := by decide +kernel
theorem dX5_read_41 : decode cX5_read 41 = .ok (.aload_n 0, 1) := by decide +kernel
theorem dX5_read_42 : decode cX5_read 42 = .ok (.getstatic 45, 3) := by decide +kernel
theorem dX5_read_45 : decode cX5_read 45 = .ok (.invokevirtual 51, 3) := by decide +kernel
theorem dX5_read_48 : decode cX5_read 48 = .ok (.ifCond .ne 38, 3) := by decide +kernel
theorem dX5_read_51 : decode cX5_read 51 = .ok (.aload_n 0, 1) := by decide +kernel
theorem dX5_read_52 : decode cX5_read 52 = .ok (.iload_n 2, 1) := by decide +kernel
theorem dX5_read_53 : decode cX5_read 53 = .ok (.aload_n 1, 1) := by decide +kernel
theorem dX5_read_54 : decode cX5_read 54 = .ok (.invokevirtual 55, 3) := by decide +kernel
theorem dX5_read_57 : decode cX5_read 57 = .ok (.ifCond .eq 23, 3) := by decide +kernel
theorem dX5_read_60 : decode cX5_read 60 = .ok (.aload_n 0, 1) := by decide +kernel
theorem dX5_read_61 : decode cX5_read 61 = .ok (.aload_n 1, 1) := by decide +kernel
theorem dX5_read_62 : decode cX5_read 62 = .ok (.getfield 59, 3) := by decide +kernel
theorem dX5_read_65 : decode cX5_read 65 = .ok (.iload_n 2, 1) := by decide +kernel
theorem dX5_read_66 : decode cX5_read 66 = .ok (.aaload, 1) := by decide +kernel
theorem dX5_read_67 : decode cX5_read 67 = .ok (.invokevirtual 63, 3) := by decide +kernel
theorem dX5_read_70 : decode cX5_read 70 = .ok (.ifCond .eq 10, 3) := by decide +kernel
theorem dX5_read_73 : decode cX5_read 73 = .ok (.aload_n 1, 1) := by decide +kernel
theorem dX5_read_74 : decode cX5_read 74 = .ok (.iload_n 2, 1) := by decide +kernel
theorem dX5_read_75 : decode cX5_read 75 = .ok (.iconst 1, 1) := by decide +kernel
theorem dX5_read_76 : decode cX5_read 76 = .ok (.iadd, 1) := by decide +kernel
theorem dX5_read_77 : decode cX5_read 77 = .ok (.putfield 40, 3) := by decide +kernel
theorem dX5_read_80 : decode cX5_read 80 = .ok (.iinc 2 1, 3) := by decide +kernel
theorem dX5_read_83 : decode cX5_read 83 = .ok (.goto (-55), 3) := by decide +kernel
theorem dX5_read_86 : decode cX5_read 86 = .ok (.aload_n 0, 1) := by decide +kernel
theorem dX5_read_87 : decode cX5_read 87 = .ok (.getfield 22, 3) := by decide +kernel
theorem dX5_read_90 : decode cX5_read 90 = .ok (.ifCond .ne 22, 3) := by decide +kernel
theorem dX5_read_93 : decode cX5_read 93 = .ok (.aload_n 0, 1) := by decide +kernel
theorem dX5_read_94 : decode cX5_read 94 = .ok (.getfield 28, 3) := by decide +kernel
theorem dX5_read_97 : decode cX5_read 97 = .ok (.getfield 67, 3) := by decide +kernel
theorem dX5_read_100 : decode cX5_read 100 = .ok (.sipush 400, 3) := by decide +kernel
theorem dX5_read_103 : decode cX5_read 103 = .ok (.if_icmp .le 9, 3) := by decide +kernel
theorem dX5_read_106 : decode cX5_read 106 = .ok (.aload_n 0, 1) := by decide +kernel
theorem dX5_read_107 : decode cX5_read 107 = .ok (.iconst 1, 1) := by decide +kernel
theorem dX5_read_108 : decode cX5_read 108 = .ok (.invokevirtual 72, 3) := by decide +kernel
theorem dX5_read_111 : decode cX5_read 111 = .ok (.pop, 1) := by decide +kernel
theorem dX5_read_112 : decode cX5_read 112 = .ok (.aload_n 0, 1) := by decide +kernel
theorem dX5_read_113 : decode cX5_read 113 = .ok (.getfield 32, 3) := by decide +kernel
theorem dX5_read_116 : decode cX5_read 116 = .ok (.aload_n 0, 1) := by decide +kernel
theorem dX5_read_117 : decode cX5_read 117 = .ok (.getfield 22, 3) := by decide +kernel
theorem dX5_read_120 : decode cX5_read 120 = .ok (.ifCond .ne 7, 3) := by decide +kernel
theorem dX5_read_123 : decode cX5_read 123 = .ok (.iconst 1, 1) := by decide +kernel
theorem dX5_read_124 : decode cX5_read 124 = .ok (.goto 4, 3) := by decide +kernel
theorem dX5_read_127 : decode cX5_read 127 = .ok (.iconst 0, 1) := by decide +kernel
theorem dX5_read_128 : decode cX5_read 128 = .ok (.invokevirtual 76, 3) := by decide +kernel
theorem dX5_read_131 : decode cX5_read 131 = .ok (.aload_n 0, 1) := by decide +kernel
theorem dX5_read_132 : decode cX5_read 132 = .ok (.getfield 22, 3) := by decide +kernel
theorem dX5_read_135 : decode cX5_read 135 = .ok (.ifCond .ne 7, 3) := by decide +kernel
theorem dX5_read_138 : decode cX5_read 138 = .ok (.iconst 1, 1) := by decide +kernel
theorem dX5_read_139 : decode cX5_read 139 = .ok (.goto 4, 3) := by decide +kernel
theorem dX5_read_142 : decode cX5_read 142 = .ok (.iconst 0, 1) := by decide +kernel
theorem dX5_read_143 : decode cX5_read 143 = .ok (.ireturn, 1) := by decide +kernel
theorem dX5_is_0 : decode cX5_is 0 = .ok (.aload_n 0, 1) := by decide +kernel
theorem dX5_is_1 : decode cX5_is 1 = .ok (.getfield 12, 3) := by decide +kernel
theorem dX5_is_4 : decode cX5_is 4 = .ok (.getfield 82, 3) := by decide +kernel
theorem dX5_is_7 : decode cX5_is 7 = .ok (.aload_n 0, 1) := by decide +kernel
theorem dX5_is_8 : decode cX5_is 8 = .ok (.getfield 18, 3) := by decide +kernel
theorem dX5_is_11 : decode cX5_is 11 = .ok (.aaload, 1) := by decide +kernel
theorem dX5_is_12 : decode cX5_is 12 = .ok (.aload_n 1, 1) := by decide +kernel
theorem dX5_is_13 : decode cX5_is 13 = .ok (.if_acmp .ne 7, 3) := by decide +kernel
theorem dX5_is_16 : decode cX5_is 16 = .ok (.iconst 1, 1) := by decide +kernel
theorem dX5_is_17 : decode cX5_is 17 = .ok (.goto 4, 3) := by decide +kernel
theorem dX5_is_20 : decode cX5_is 20 = .ok (.iconst 0, 1) := by decide +kernel
theorem dX5_is_21 : decode cX5_is 21 = .ok (.ireturn, 1) := by decide +kernel
theorem dX5_pass_0 : decode cX5_pass 0 = .ok (.aload_n 0, 1) := by decide +kernel
theorem dX5_pass_1 : decode cX5_pass 1 = .ok (.getfield 18, 3) := by decide +kernel
theorem dX5_pass_4 : decode cX5_pass 4 = .ok (.sipush 400, 3) := by decide +kernel
theorem dX5_pass_7 : decode cX5_pass 7 = .ok (.if_icmp .ge 13, 3) := by decide +kernel
theorem dX5_pass_10 : decode cX5_pass 10 = .ok (.aload_n 0, 1) := by decide +kernel
theorem dX5_pass_11 : decode cX5_pass 11 = .ok (.dup, 1) := by decide +kernel
theorem dX5_pass_12 : decode cX5_pass 12 = .ok (.getfield 18, 3) := by decide +kernel
theorem dX5_pass_15 : decode cX5_pass 15 = .ok (.iconst 1, 1) := by decide +kernel
theorem dX5_pass_16 : decode cX5_pass 16 = .ok (.iadd, 1) := by decide +kernel
theorem dX5_pass_17 : decode cX5_pass 17 = .ok (.putfield 18, 3) := by decide +kernel
theorem dX5_pass_20 : decode cX5_pass 20 = .ok (.iconst 1, 1) := by decide +kernel
theorem dX5_pass_21 : decode cX5_pass 21 = .ok (.ireturn, 1) := by decide +kernel
theorem dX5_refuse_0 : decode cX5_refuse 0 = .ok (.aload_n 0, 1) := by decide +kernel
theorem dX5_refuse_1 : decode cX5_refuse 1 = .ok (.iload_n 1, 1) := by decide +kernel
theorem dX5_refuse_2 : decode cX5_refuse 2 = .ok (.putfield 22, 3) := by decide +kernel
theorem dX5_refuse_5 : decode cX5_refuse 5 = .ok (.aload_n 0, 1) := by decide +kernel
theorem dX5_refuse_6 : decode cX5_refuse 6 = .ok (.aload_n 0, 1) := by decide +kernel
theorem dX5_refuse_7 : decode cX5_refuse 7 = .ok (.getfield 12, 3) := by decide +kernel
theorem dX5_refuse_10 : decode cX5_refuse 10 = .ok (.getfield 86, 3) := by decide +kernel
theorem dX5_refuse_13 : decode cX5_refuse 13 = .ok (.aload_n 0, 1) := by decide +kernel
theorem dX5_refuse_14 : decode cX5_refuse 14 = .ok (.getfield 18, 3) := by decide +kernel
theorem dX5_refuse_17 : decode cX5_refuse 17 = .ok (.iaload, 1) := by decide +kernel
theorem dX5_refuse_18 : decode cX5_refuse 18 = .ok (.putfield 25, 3) := by decide +kernel
theorem dX5_refuse_21 : decode cX5_refuse 21 = .ok (.iconst 0, 1) := by decide +kernel
theorem dX5_refuse_22 : decode cX5_refuse 22 = .ok (.ireturn, 1) := by decide +kernel
set_option maxRecDepth 20000 in
theorem ggX5_readBeginning_X5_is : GoodIn wsX5_readBeginning wsX5_is := goodIn_r _ [11, 4, 5, 49, 50, 51, 52, 53, 54, 55, 56, 57, 58] rfl (by decide +kernel)
set_option maxRecDepth 20000 in
theorem gX5_readBeginning_X5_is : GoodIn wsX5_readBeginning (wsV RX5 51 RX5 yX5_is wsX5_is) := goodIn_app (goodIn_of _ (by decide +kernel)) ggX5_readBeginning_X5_is
set_option maxRecDepth 20000 in
theorem ggX5_readBeginning_X5_refuse : GoodIn wsX5_readBeginning wsX5_refuse := goodIn_r _ [15, 16, 4, 5, 17, 49, 50, 51, 52, 53, 54, 55, 56, 57, 58] rfl (by decide +kernel)
set_option maxRecDepth 20000 in
theorem gX5_readBeginning_X5_refuse : GoodIn wsX5_readBeginning (wsV RX5 72 RX5 yX5_refuse wsX5_refuse) := goodIn_app (goodIn_of _ (by decide +kernel)) ggX5_readBeginning_X5_refuse
set_option maxRecDepth 20000 in
theorem ggX5_readBeginning_X3_findOrDraft : GoodIn wsX5_readBeginning wsX3_findOrDraft := goodIn_r _ [22, 23, 24, 25, 26, 27, 28, 29, 21, 30, 31, 32, 33, 34, 61, 62, 63, 64, 65, 66] rfl (by decide +kernel)
set_option maxRecDepth 20000 in
theorem gX5_readBeginning_X3_findOrDraft : GoodIn wsX5_readBeginning (wsV RX5 96 RX3 yX3_findOrDraft wsX3_findOrDraft) := goodIn_app (goodIn_of _ (by decide +kernel)) ggX5_readBeginning_X3_findOrDraft
set_option maxRecDepth 20000 in
theorem ggX5_readBeginning_X6_begin : GoodIn wsX5_readBeginning wsX6_begin := goodIn_r _ [39, 40, 41, 42, 43, 44, 67, 68, 69, 70, 71, 72] rfl (by decide +kernel)
set_option maxRecDepth 20000 in
theorem gX5_readBeginning_X6_begin : GoodIn wsX5_readBeginning (wsV RX5 100 RX6 yX6_begin wsX6_begin) := goodIn_app (goodIn_of _ (by decide +kernel)) ggX5_readBeginning_X6_begin
set_option maxRecDepth 20000 in
theorem ggX5_readBeginning_X5_pass : GoodIn wsX5_readBeginning wsX5_pass := goodIn_r _ [48, 5, 49, 50, 51, 52, 53, 54] rfl (by decide +kernel)
set_option maxRecDepth 20000 in
theorem gX5_readBeginning_X5_pass : GoodIn wsX5_readBeginning (wsV RX5 106 RX5 yX5_pass wsX5_pass) := goodIn_app (goodIn_of _ (by decide +kernel)) ggX5_readBeginning_X5_pass
theorem dX5_readBeginning_0 : decode cX5_readBeginning 0 = .ok (.aload_n 0, 1) := by decide +kernel
theorem dX5_readBeginning_1 : decode cX5_readBeginning 1 = .ok (.getstatic 90, 3) := by decide +kernel
theorem dX5_readBeginning_4 : decode cX5_readBeginning 4 = .ok (.invokevirtual 51, 3) := by decide +kernel
theorem dX5_readBeginning_7 : decode cX5_readBeginning 7 = .ok (.ifCond .ne 9, 3) := by decide +kernel
theorem dX5_readBeginning_10 : decode cX5_readBeginning 10 = .ok (.aload_n 0, 1) := by decide +kernel
theorem dX5_readBeginning_11 : decode cX5_readBeginning 11 = .ok (.iconst 1, 1) := by decide +kernel
theorem dX5_readBeginning_12 : decode cX5_readBeginning 12 = .ok (.invokevirtual 72, 3) := by decide +kernel
theorem dX5_readBeginning_15 : decode cX5_readBeginning 15 = .ok (.ireturn, 1) := by decide +kernel
theorem dX5_readBeginning_16 : decode cX5_readBeginning 16 = .ok (.iload_n 1, 1) := by decide +kernel
theorem dX5_readBeginning_17 : decode cX5_readBeginning 17 = .ok (.bipush 12, 2) := by decide +kernel
theorem dX5_readBeginning_19 : decode cX5_readBeginning 19 = .ok (.if_icmp .lt 9, 3) := by decide +kernel
theorem dX5_readBeginning_22 : decode cX5_readBeginning 22 = .ok (.aload_n 0, 1) := by decide +kernel
theorem dX5_readBeginning_23 : decode cX5_readBeginning 23 = .ok (.iconst 4, 1) := by decide +kernel
theorem dX5_readBeginning_24 : decode cX5_readBeginning 24 = .ok (.invokevirtual 72, 3) := by decide +kernel
theorem dX5_readBeginning_27 : decode cX5_readBeginning 27 = .ok (.ireturn, 1) := by decide +kernel
theorem dX5_readBeginning_28 : decode cX5_readBeginning 28 = .ok (.aload_n 0, 1) := by decide +kernel
theorem dX5_readBeginning_29 : decode cX5_readBeginning 29 = .ok (.getfield 32, 3) := by decide +kernel
theorem dX5_readBeginning_32 : decode cX5_readBeginning 32 = .ok (.aload_n 0, 1) := by decide +kernel
theorem dX5_readBeginning_33 : decode cX5_readBeginning 33 = .ok (.getfield 28, 3) := by decide +kernel
theorem dX5_readBeginning_36 : decode cX5_readBeginning 36 = .ok (.aload_n 0, 1) := by decide +kernel
theorem dX5_readBeginning_37 : decode cX5_readBeginning 37 = .ok (.getfield 12, 3) := by decide +kernel
theorem dX5_readBeginning_40 : decode cX5_readBeginning 40 = .ok (.getfield 86, 3) := by decide +kernel
theorem dX5_readBeginning_43 : decode cX5_readBeginning 43 = .ok (.aload_n 0, 1) := by decide +kernel
theorem dX5_readBeginning_44 : decode cX5_readBeginning 44 = .ok (.getfield 18, 3) := by decide +kernel
theorem dX5_readBeginning_47 : decode cX5_readBeginning 47 = .ok (.iaload, 1) := by decide +kernel
theorem dX5_readBeginning_48 : decode cX5_readBeginning 48 = .ok (.aload_n 0, 1) := by decide +kernel
theorem dX5_readBeginning_49 : decode cX5_readBeginning 49 = .ok (.getfield 12, 3) := by decide +kernel
theorem dX5_readBeginning_52 : decode cX5_readBeginning 52 = .ok (.getfield 93, 3) := by decide +kernel
theorem dX5_readBeginning_55 : decode cX5_readBeginning 55 = .ok (.aload_n 0, 1) := by decide +kernel
theorem dX5_readBeginning_56 : decode cX5_readBeginning 56 = .ok (.getfield 18, 3) := by decide +kernel
theorem dX5_readBeginning_59 : decode cX5_readBeginning 59 = .ok (.iaload, 1) := by decide +kernel
theorem dX5_readBeginning_60 : decode cX5_readBeginning 60 = .ok (.invokevirtual 96, 3) := by decide +kernel
theorem dX5_readBeginning_63 : decode cX5_readBeginning 63 = .ok (.istore_n 3, 1) := by decide +kernel
theorem dX5_readBeginning_64 : decode cX5_readBeginning 64 = .ok (.iload_n 3, 1) := by decide +kernel
theorem dX5_readBeginning_65 : decode cX5_readBeginning 65 = .ok (.iconst (-1), 1) := by decide +kernel
theorem dX5_readBeginning_66 : decode cX5_readBeginning 66 = .ok (.if_icmp .ne 9, 3) := by decide +kernel
theorem dX5_readBeginning_69 : decode cX5_readBeginning 69 = .ok (.aload_n 0, 1) := by decide +kernel
theorem dX5_readBeginning_70 : decode cX5_readBeginning 70 = .ok (.iconst 4, 1) := by decide +kernel
theorem dX5_readBeginning_71 : decode cX5_readBeginning 71 = .ok (.invokevirtual 72, 3) := by decide +kernel
theorem dX5_readBeginning_74 : decode cX5_readBeginning 74 = .ok (.ireturn, 1) := by decide +kernel
theorem dX5_readBeginning_75 : decode cX5_readBeginning 75 = .ok (.aload_n 2, 1) := by decide +kernel
theorem dX5_readBeginning_76 : decode cX5_readBeginning 76 = .ok (.getfield 59, 3) := by decide +kernel
theorem dX5_readBeginning_79 : decode cX5_readBeginning 79 = .ok (.iload_n 1, 1) := by decide +kernel
theorem dX5_readBeginning_80 : decode cX5_readBeginning 80 = .ok (.aaload, 1) := by decide +kernel
theorem dX5_readBeginning_81 : decode cX5_readBeginning 81 = .ok (.aload_n 0, 1) := by decide +kernel
theorem dX5_readBeginning_82 : decode cX5_readBeginning 82 = .ok (.getfield 12, 3) := by decide +kernel
theorem dX5_readBeginning_85 : decode cX5_readBeginning 85 = .ok (.getfield 86, 3) := by decide +kernel
theorem dX5_readBeginning_88 : decode cX5_readBeginning 88 = .ok (.aload_n 0, 1) := by decide +kernel
theorem dX5_readBeginning_89 : decode cX5_readBeginning 89 = .ok (.getfield 18, 3) := by decide +kernel
theorem dX5_readBeginning_92 : decode cX5_readBeginning 92 = .ok (.iaload, 1) := by decide +kernel
theorem dX5_readBeginning_93 : decode cX5_readBeginning 93 = .ok (.iload_n 3, 1) := by decide +kernel
theorem dX5_readBeginning_94 : decode cX5_readBeginning 94 = .ok (.invokevirtual 100, 3) := by decide +kernel
theorem dX5_readBeginning_97 : decode cX5_readBeginning 97 = .ok (.aload_n 0, 1) := by decide +kernel
theorem dX5_readBeginning_98 : decode cX5_readBeginning 98 = .ok (.invokevirtual 106, 3) := by decide +kernel
theorem dX5_readBeginning_101 : decode cX5_readBeginning 101 = .ok (.ireturn, 1) := by decide +kernel
set_option maxRecDepth 20000 in
theorem ggX5_readRest_X5_refuse : GoodIn wsX5_readRest wsX5_refuse := goodIn_r _ [10, 11, 1, 2, 12, 85, 86, 87, 88, 89, 90, 91, 92, 93, 94] rfl (by decide +kernel)
set_option maxRecDepth 20000 in
theorem gX5_readRest_X5_refuse : GoodIn wsX5_readRest (wsV RX5 72 RX5 yX5_refuse wsX5_refuse) := goodIn_app (goodIn_of _ (by decide +kernel)) ggX5_readRest_X5_refuse
set_option maxRecDepth 20000 in
theorem ggX5_readRest_X5_pass : GoodIn wsX5_readRest wsX5_pass := goodIn_r _ [16, 2, 85, 86, 87, 88, 89, 90] rfl (by decide +kernel)
set_option maxRecDepth 20000 in
theorem gX5_readRest_X5_pass : GoodIn wsX5_readRest (wsV RX5 106 RX5 yX5_pass wsX5_pass) := goodIn_app (goodIn_of _ (by decide +kernel)) ggX5_readRest_X5_pass
set_option maxRecDepth 20000 in
theorem ggX5_readRest_Jx29ce0_ordinal_8abf5 : GoodIn wsX5_readRest wsJx29ce0_ordinal_8abf5 := goodIn_r _ [22, 23] rfl (by decide +kernel)
set_option maxRecDepth 20000 in
theorem gX5_readRest_Jx29ce0_ordinal_8abf5_u121X9 : GoodIn wsX5_readRest (va_wsU RX5 121 RX9 "java/lang/Enum" ⟨"CaseOrder$Token", "ordinal", "()I"⟩ yJx29ce0_ordinal_8abf5 wsJx29ce0_ordinal_8abf5) := goodIn_app (goodIn_of _ (by decide +kernel)) ggX5_readRest_Jx29ce0_ordinal_8abf5
set_option maxRecDepth 20000 in
theorem ggX5_readRest_X5_readFirst : GoodIn wsX5_readRest wsX5_readFirst := goodIn_r _ [27, 28, 29, 30, 31, 9, 32, 33, 1, 2, 34, 35, 36, 37, 38, 39, 6, 7, 8, 10, 11, 12, 13, 14, 15, 16, 95, 96, 97, 98, 99, 100, 85, 86, 87, 88, 89, 90, 91, 92, 93, 94, 101, 102] rfl (by decide +kernel)
set_option maxRecDepth 20000 in
theorem gX5_readRest_X5_readFirst : GoodIn wsX5_readRest (wsV RX5 125 RX5 yX5_readFirst wsX5_readFirst) := goodIn_app (goodIn_of _ (by decide +kernel)) ggX5_readRest_X5_readFirst
set_option maxRecDepth 20000 in
theorem ggX5_readRest_X5_readSecond : GoodIn wsX5_readRest wsX5_readSecond := goodIn_r _ [43, 44, 28, 45, 36, 37, 38, 9, 39, 1, 2, 6, 7, 8, 10, 11, 12, 13, 14, 15, 16, 29, 30, 31, 32, 33, 34, 35, 95, 96, 97, 98, 99, 100, 85, 86, 87, 88, 89, 90, 91, 92, 93, 94, 101, 102] rfl (by decide +kernel)
set_option maxRecDepth 20000 in
theorem gX5_readRest_X5_readSecond : GoodIn wsX5_readRest (wsV RX5 129 RX5 yX5_readSecond wsX5_readSecond) := goodIn_app (goodIn_of _ (by decide +kernel)) ggX5_readRest_X5_readSecond
set_option maxRecDepth 20000 in
theorem ggX5_readRest_X5_readStop : GoodIn wsX5_readRest wsX5_readStop := goodIn_r _ [49, 50, 36, 37, 38, 9, 39, 1, 2, 13, 14, 15, 16, 6, 7, 8, 10, 11, 12, 85, 86, 87, 88, 89, 90, 91, 92, 93, 94] rfl (by decide +kernel)
set_option maxRecDepth 20000 in
theorem gX5_readRest_X5_readStop : GoodIn wsX5_readRest (wsV RX5 132 RX5 yX5_readStop wsX5_readStop) := goodIn_app (goodIn_of _ (by decide +kernel)) ggX5_readRest_X5_readStop
set_option maxRecDepth 20000 in
theorem ggX5_readRest_X5_readSecondIfAny : GoodIn wsX5_readRest wsX5_readSecondIfAny := goodIn_r _ [54, 28, 44, 36, 37, 38, 9, 39, 1, 2, 40, 41, 42, 43, 45, 6, 7, 8, 10, 11, 12, 13, 14, 15, 16, 29, 30, 31, 32, 33, 34, 35, 95, 96, 97, 98, 99, 100, 85, 86, 87, 88, 89, 90, 91, 92, 93, 94, 101, 102] rfl (by decide +kernel)
set_option maxRecDepth 20000 in
theorem gX5_readRest_X5_readSecondIfAny : GoodIn wsX5_readRest (wsV RX5 135 RX5 yX5_readSecondIfAny wsX5_readSecondIfAny) := goodIn_app (goodIn_of _ (by decide +kernel)) ggX5_readRest_X5_readSecondIfAny
set_option maxRecDepth 20000 in
theorem ggX5_readRest_X5_readOther : GoodIn wsX5_readRest wsX5_readOther := goodIn_r _ [58, 59, 60, 34, 1, 2, 61, 62, 36, 37, 38, 9, 39, 6, 7, 8, 10, 11, 12, 63, 64, 65, 66, 67, 68, 69, 70, 71, 72, 73, 74, 75, 76, 77, 78, 79, 13, 14, 15, 16, 85, 86, 87, 88, 89, 90, 91, 92, 93, 94, 95, 96, 97, 98, 99, 100, 103, 104, 105, 106, 101, 102] rfl (by decide +kernel)
set_option maxRecDepth 20000 in
theorem gX5_readRest_X5_readOther : GoodIn wsX5_readRest (wsV RX5 138 RX5 yX5_readOther wsX5_readOther) := goodIn_app (goodIn_of _ (by decide +kernel)) ggX5_readRest_X5_readOther
set_option maxRecDepth 20000 in
theorem ggX5_readRest_X5_readGapIfAny : GoodIn wsX5_readRest wsX5_readGapIfAny := goodIn_r _ [83, 84, 36, 37, 38, 9, 39, 1, 2, 13, 14, 15, 16, 24, 25, 26, 27, 28, 29, 30, 31, 32, 33, 34, 35, 6, 7, 8, 10, 11, 12, 85, 86, 87, 88, 89, 90, 91, 92, 93, 94, 95, 96, 97, 98, 99, 100, 101, 102] rfl (by decide +kernel)
set_option maxRecDepth 20000 in
theorem gX5_readRest_X5_readGapIfAny : GoodIn wsX5_readRest (wsV RX5 141 RX5 yX5_readGapIfAny wsX5_readGapIfAny) := goodIn_app (goodIn_of _ (by decide +kernel)) ggX5_readRest_X5_readGapIfAny
theorem dX5_readRest_0 : decode cX5_readRest 0 = .ok (.aload_n 1, 1) := by decide +kernel
theorem dX5_readRest_1 : decode cX5_readRest 1 = .ok (.aload_n 0, 1) := by decide +kernel
theorem dX5_readRest_2 : decode cX5_readRest 2 = .ok (.getfield 12, 3) := by decide +kernel
theorem dX5_readRest_5 : decode cX5_readRest 5 = .ok (.getfield 82, 3) := by decide +kernel
theorem dX5_readRest_8 : decode cX5_readRest 8 = .ok (.aload_n 0, 1) := by decide +kernel
theorem dX5_readRest_9 : decode cX5_readRest 9 = .ok (.getfield 18, 3) := by decide +kernel
theorem dX5_readRest_12 : decode cX5_readRest 12 = .ok (.aaload, 1) := by decide +kernel
theorem dX5_readRest_13 : decode cX5_readRest 13 = .ok (.putfield 110, 3) := by decide +kernel
theorem dX5_readRest_16 : decode cX5_readRest 16 = .ok (.aload_n 1, 1) := by decide +kernel
theorem dX5_readRest_17 : decode cX5_readRest 17 = .ok (.getfield 110, 3) := by decide +kernel
theorem dX5_readRest_20 : decode cX5_readRest 20 = .ok (.getfield 113, 3) := by decide +kernel
theorem dX5_readRest_23 : decode cX5_readRest 23 = .ok (.iconst (-1), 1) := by decide +kernel
theorem dX5_readRest_24 : decode cX5_readRest 24 = .ok (.if_icmp .ne 9, 3) := by decide +kernel
theorem dX5_readRest_27 : decode cX5_readRest 27 = .ok (.aload_n 0, 1) := by decide +kernel
theorem dX5_readRest_28 : decode cX5_readRest 28 = .ok (.iconst 1, 1) := by decide +kernel
theorem dX5_readRest_29 : decode cX5_readRest 29 = .ok (.invokevirtual 72, 3) := by decide +kernel
theorem dX5_readRest_32 : decode cX5_readRest 32 = .ok (.ireturn, 1) := by decide +kernel
theorem dX5_readRest_33 : decode cX5_readRest 33 = .ok (.aload_n 0, 1) := by decide +kernel
theorem dX5_readRest_34 : decode cX5_readRest 34 = .ok (.invokevirtual 106, 3) := by decide +kernel
theorem dX5_readRest_37 : decode cX5_readRest 37 = .ok (.pop, 1) := by decide +kernel
theorem dX5_readRest_38 : decode cX5_readRest 38 = .ok (.getstatic 116, 3) := by decide +kernel
theorem dX5_readRest_41 : decode cX5_readRest 41 = .ok (.aload_n 1, 1) := by decide +kernel
theorem dX5_readRest_42 : decode cX5_readRest 42 = .ok (.getfield 110, 3) := by decide +kernel
theorem dX5_readRest_45 : decode cX5_readRest 45 = .ok (.invokevirtual 121, 3) := by decide +kernel
theorem dX5_readRest_48 : decode cX5_readRest 48 = .ok (.iaload, 1) := by decide +kernel
theorem dX5_readRest_49 : decode cX5_readRest 49 = .ok (.tableswitch 157 2 7 #[39, 157, 157, 69, 99, 136], 39) := by decide +kernel
theorem dX5_readRest_88 : decode cX5_readRest 88 = .ok (.aload_n 0, 1) := by decide +kernel
theorem dX5_readRest_89 : decode cX5_readRest 89 = .ok (.aload_n 1, 1) := by decide +kernel
theorem dX5_readRest_90 : decode cX5_readRest 90 = .ok (.iconst 0, 1) := by decide +kernel
theorem dX5_readRest_91 : decode cX5_readRest 91 = .ok (.invokevirtual 125, 3) := by decide +kernel
theorem dX5_readRest_94 : decode cX5_readRest 94 = .ok (.ifCond .eq 22, 3) := by decide +kernel
theorem dX5_readRest_97 : decode cX5_readRest 97 = .ok (.aload_n 0, 1) := by decide +kernel
theorem dX5_readRest_98 : decode cX5_readRest 98 = .ok (.aload_n 1, 1) := by decide +kernel
theorem dX5_readRest_99 : decode cX5_readRest 99 = .ok (.invokevirtual 129, 3) := by decide +kernel
theorem dX5_readRest_102 : decode cX5_readRest 102 = .ok (.ifCond .eq 14, 3) := by decide +kernel
theorem dX5_readRest_105 : decode cX5_readRest 105 = .ok (.aload_n 0, 1) := by decide +kernel
theorem dX5_readRest_106 : decode cX5_readRest 106 = .ok (.invokevirtual 132, 3) := by decide +kernel
theorem dX5_readRest_109 : decode cX5_readRest 109 = .ok (.ifCond .eq 7, 3) := by decide +kernel
theorem dX5_readRest_112 : decode cX5_readRest 112 = .ok (.iconst 1, 1) := by decide +kernel
theorem dX5_readRest_113 : decode cX5_readRest 113 = .ok (.goto 4, 3) := by decide +kernel
theorem dX5_readRest_116 : decode cX5_readRest 116 = .ok (.iconst 0, 1) := by decide +kernel
theorem dX5_readRest_117 : decode cX5_readRest 117 = .ok (.ireturn, 1) := by decide +kernel
theorem dX5_readRest_118 : decode cX5_readRest 118 = .ok (.aload_n 0, 1) := by decide +kernel
theorem dX5_readRest_119 : decode cX5_readRest 119 = .ok (.aload_n 1, 1) := by decide +kernel
theorem dX5_readRest_120 : decode cX5_readRest 120 = .ok (.iconst 0, 1) := by decide +kernel
theorem dX5_readRest_121 : decode cX5_readRest 121 = .ok (.invokevirtual 125, 3) := by decide +kernel
theorem dX5_readRest_124 : decode cX5_readRest 124 = .ok (.ifCond .eq 22, 3) := by decide +kernel
theorem dX5_readRest_127 : decode cX5_readRest 127 = .ok (.aload_n 0, 1) := by decide +kernel
theorem dX5_readRest_128 : decode cX5_readRest 128 = .ok (.aload_n 1, 1) := by decide +kernel
theorem dX5_readRest_129 : decode cX5_readRest 129 = .ok (.invokevirtual 135, 3) := by decide +kernel
theorem dX5_readRest_132 : decode cX5_readRest 132 = .ok (.ifCond .eq 14, 3) := by decide +kernel
theorem dX5_readRest_135 : decode cX5_readRest 135 = .ok (.aload_n 0, 1) := by decide +kernel
theorem dX5_readRest_136 : decode cX5_readRest 136 = .ok (.invokevirtual 132, 3) := by decide +kernel
theorem dX5_readRest_139 : decode cX5_readRest 139 = .ok (.ifCond .eq 7, 3) := by decide +kernel
theorem dX5_readRest_142 : decode cX5_readRest 142 = .ok (.iconst 1, 1) := by decide +kernel
theorem dX5_readRest_143 : decode cX5_readRest 143 = .ok (.goto 4, 3) := by decide +kernel
theorem dX5_readRest_146 : decode cX5_readRest 146 = .ok (.iconst 0, 1) := by decide +kernel
theorem dX5_readRest_147 : decode cX5_readRest 147 = .ok (.ireturn, 1) := by decide +kernel
theorem dX5_readRest_148 : decode cX5_readRest 148 = .ok (.aload_n 0, 1) := by decide +kernel
theorem dX5_readRest_149 : decode cX5_readRest 149 = .ok (.aload_n 1, 1) := by decide +kernel
theorem dX5_readRest_150 : decode cX5_readRest 150 = .ok (.invokevirtual 138, 3) := by decide +kernel
theorem dX5_readRest_153 : decode cX5_readRest 153 = .ok (.ifCond .eq 30, 3) := by decide +kernel
theorem dX5_readRest_156 : decode cX5_readRest 156 = .ok (.aload_n 0, 1) := by decide +kernel
theorem dX5_readRest_157 : decode cX5_readRest 157 = .ok (.aload_n 1, 1) := by decide +kernel
theorem dX5_readRest_158 : decode cX5_readRest 158 = .ok (.invokevirtual 141, 3) := by decide +kernel
theorem dX5_readRest_161 : decode cX5_readRest 161 = .ok (.ifCond .eq 22, 3) := by decide +kernel
theorem dX5_readRest_164 : decode cX5_readRest 164 = .ok (.aload_n 0, 1) := by decide +kernel
theorem dX5_readRest_165 : decode cX5_readRest 165 = .ok (.aload_n 1, 1) := by decide +kernel
theorem dX5_readRest_166 : decode cX5_readRest 166 = .ok (.invokevirtual 135, 3) := by decide +kernel
theorem dX5_readRest_169 : decode cX5_readRest 169 = .ok (.ifCond .eq 14, 3) := by decide +kernel
theorem dX5_readRest_172 : decode cX5_readRest 172 = .ok (.aload_n 0, 1) := by decide +kernel
theorem dX5_readRest_173 : decode cX5_readRest 173 = .ok (.invokevirtual 132, 3) := by decide +kernel
theorem dX5_readRest_176 : decode cX5_readRest 176 = .ok (.ifCond .eq 7, 3) := by decide +kernel
theorem dX5_readRest_179 : decode cX5_readRest 179 = .ok (.iconst 1, 1) := by decide +kernel
theorem dX5_readRest_180 : decode cX5_readRest 180 = .ok (.goto 4, 3) := by decide +kernel
theorem dX5_readRest_183 : decode cX5_readRest 183 = .ok (.iconst 0, 1) := by decide +kernel
theorem dX5_readRest_184 : decode cX5_readRest 184 = .ok (.ireturn, 1) := by decide +kernel
theorem dX5_readRest_185 : decode cX5_readRest 185 = .ok (.aload_n 0, 1) := by decide +kernel
theorem dX5_readRest_186 : decode cX5_readRest 186 = .ok (.aload_n 1, 1) := by decide +kernel
theorem dX5_readRest_187 : decode cX5_readRest 187 = .ok (.invokevirtual 138, 3) := by decide +kernel
theorem dX5_readRest_190 : decode cX5_readRest 190 = .ok (.ifCond .eq 14, 3) := by decide +kernel
theorem dX5_readRest_193 : decode cX5_readRest 193 = .ok (.aload_n 0, 1) := by decide +kernel
theorem dX5_readRest_194 : decode cX5_readRest 194 = .ok (.invokevirtual 132, 3) := by decide +kernel
theorem dX5_readRest_197 : decode cX5_readRest 197 = .ok (.ifCond .eq 7, 3) := by decide +kernel
theorem dX5_readRest_200 : decode cX5_readRest 200 = .ok (.iconst 1, 1) := by decide +kernel
theorem dX5_readRest_201 : decode cX5_readRest 201 = .ok (.goto 4, 3) := by decide +kernel
theorem dX5_readRest_204 : decode cX5_readRest 204 = .ok (.iconst 0, 1) := by decide +kernel
theorem dX5_readRest_205 : decode cX5_readRest 205 = .ok (.ireturn, 1) := by decide +kernel
theorem dX5_readRest_206 : decode cX5_readRest 206 = .ok (.aload_n 0, 1) := by decide +kernel
theorem dX5_readRest_207 : decode cX5_readRest 207 = .ok (.aload_n 1, 1) := by decide +kernel
theorem dX5_readRest_208 : decode cX5_readRest 208 = .ok (.iconst 0, 1) := by decide +kernel
theorem dX5_readRest_209 : decode cX5_readRest 209 = .ok (.invokevirtual 125, 3) := by decide +kernel
theorem dX5_readRest_212 : decode cX5_readRest 212 = .ok (.ifCond .eq 14, 3) := by decide +kernel
theorem dX5_readRest_215 : decode cX5_readRest 215 = .ok (.aload_n 0, 1) := by decide +kernel
theorem dX5_readRest_216 : decode cX5_readRest 216 = .ok (.invokevirtual 132, 3) := by decide +kernel
theorem dX5_readRest_219 : decode cX5_readRest 219 = .ok (.ifCond .eq 7, 3) := by decide +kernel
theorem dX5_readRest_222 : decode cX5_readRest 222 = .ok (.iconst 1, 1) := by decide +kernel
theorem dX5_readRest_223 : decode cX5_readRest 223 = .ok (.goto 4, 3) := by decide +kernel
theorem dX5_readRest_226 : decode cX5_readRest 226 = .ok (.iconst 0, 1) := by decide +kernel
theorem dX5_readRest_227 : decode cX5_readRest 227 = .ok (.ireturn, 1) := by decide +kernel
set_option maxRecDepth 20000 in
theorem ggX5_readOther_X5_is : GoodIn wsX5_readOther wsX5_is := goodIn_r _ [12, 4, 5, 40, 41, 42, 43, 44, 45, 46, 47, 48, 49] rfl (by decide +kernel)
set_option maxRecDepth 20000 in
theorem gX5_readOther_X5_is : GoodIn wsX5_readOther (wsV RX5 51 RX5 yX5_is wsX5_is) := goodIn_app (goodIn_of _ (by decide +kernel)) ggX5_readOther_X5_is
set_option maxRecDepth 20000 in
theorem ggX5_readOther_X5_refuse : GoodIn wsX5_readOther wsX5_refuse := goodIn_r _ [16, 17, 4, 5, 18, 40, 41, 42, 43, 44, 45, 46, 47, 48, 49] rfl (by decide +kernel)
set_option maxRecDepth 20000 in
theorem gX5_readOther_X5_refuse : GoodIn wsX5_readOther (wsV RX5 72 RX5 yX5_refuse wsX5_refuse) := goodIn_app (goodIn_of _ (by decide +kernel)) ggX5_readOther_X5_refuse
set_option maxRecDepth 20000 in
theorem ggX5_readOther_X3_findOrDraft : GoodIn wsX5_readOther wsX3_findOrDraft := goodIn_r _ [23, 24, 25, 26, 27, 28, 29, 30, 22, 31, 32, 33, 34, 35, 56, 57, 58, 59, 60, 61] rfl (by decide +kernel)
set_option maxRecDepth 20000 in
theorem gX5_readOther_X3_findOrDraft : GoodIn wsX5_readOther (wsV RX5 96 RX3 yX3_findOrDraft wsX3_findOrDraft) := goodIn_app (goodIn_of _ (by decide +kernel)) ggX5_readOther_X3_findOrDraft
set_option maxRecDepth 20000 in
theorem ggX5_readOther_X5_pass : GoodIn wsX5_readOther wsX5_pass := goodIn_r _ [39, 5, 40, 41, 42, 43, 44, 45] rfl (by decide +kernel)
set_option maxRecDepth 20000 in
theorem gX5_readOther_X5_pass : GoodIn wsX5_readOther (wsV RX5 106 RX5 yX5_pass wsX5_pass) := goodIn_app (goodIn_of _ (by decide +kernel)) ggX5_readOther_X5_pass
theorem dX5_readOther_0 : decode cX5_readOther 0 = .ok (.aload_n 0, 1) := by decide +kernel
theorem dX5_readOther_1 : decode cX5_readOther 1 = .ok (.getstatic 90, 3) := by decide +kernel
theorem dX5_readOther_4 : decode cX5_readOther 4 = .ok (.invokevirtual 51, 3) := by decide +kernel
theorem dX5_readOther_7 : decode cX5_readOther 7 = .ok (.ifCond .ne 9, 3) := by decide +kernel
theorem dX5_readOther_10 : decode cX5_readOther 10 = .ok (.aload_n 0, 1) := by decide +kernel
theorem dX5_readOther_11 : decode cX5_readOther 11 = .ok (.iconst 1, 1) := by decide +kernel
theorem dX5_readOther_12 : decode cX5_readOther 12 = .ok (.invokevirtual 72, 3) := by decide +kernel
theorem dX5_readOther_15 : decode cX5_readOther 15 = .ok (.ireturn, 1) := by decide +kernel
theorem dX5_readOther_16 : decode cX5_readOther 16 = .ok (.aload_n 1, 1) := by decide +kernel
theorem dX5_readOther_17 : decode cX5_readOther 17 = .ok (.aload_n 0, 1) := by decide +kernel
theorem dX5_readOther_18 : decode cX5_readOther 18 = .ok (.getfield 32, 3) := by decide +kernel
theorem dX5_readOther_21 : decode cX5_readOther 21 = .ok (.aload_n 0, 1) := by decide +kernel
theorem dX5_readOther_22 : decode cX5_readOther 22 = .ok (.getfield 28, 3) := by decide +kernel
theorem dX5_readOther_25 : decode cX5_readOther 25 = .ok (.aload_n 0, 1) := by decide +kernel
theorem dX5_readOther_26 : decode cX5_readOther 26 = .ok (.getfield 12, 3) := by decide +kernel
theorem dX5_readOther_29 : decode cX5_readOther 29 = .ok (.getfield 86, 3) := by decide +kernel
theorem dX5_readOther_32 : decode cX5_readOther 32 = .ok (.aload_n 0, 1) := by decide +kernel
theorem dX5_readOther_33 : decode cX5_readOther 33 = .ok (.getfield 18, 3) := by decide +kernel
theorem dX5_readOther_36 : decode cX5_readOther 36 = .ok (.iaload, 1) := by decide +kernel
theorem dX5_readOther_37 : decode cX5_readOther 37 = .ok (.aload_n 0, 1) := by decide +kernel
theorem dX5_readOther_38 : decode cX5_readOther 38 = .ok (.getfield 12, 3) := by decide +kernel
theorem dX5_readOther_41 : decode cX5_readOther 41 = .ok (.getfield 93, 3) := by decide +kernel
theorem dX5_readOther_44 : decode cX5_readOther 44 = .ok (.aload_n 0, 1) := by decide +kernel
theorem dX5_readOther_45 : decode cX5_readOther 45 = .ok (.getfield 18, 3) := by decide +kernel
theorem dX5_readOther_48 : decode cX5_readOther 48 = .ok (.iaload, 1) := by decide +kernel
theorem dX5_readOther_49 : decode cX5_readOther 49 = .ok (.invokevirtual 96, 3) := by decide +kernel
theorem dX5_readOther_52 : decode cX5_readOther 52 = .ok (.putfield 144, 3) := by decide +kernel
theorem dX5_readOther_55 : decode cX5_readOther 55 = .ok (.aload_n 1, 1) := by decide +kernel
theorem dX5_readOther_56 : decode cX5_readOther 56 = .ok (.getfield 144, 3) := by decide +kernel
theorem dX5_readOther_59 : decode cX5_readOther 59 = .ok (.aload_n 1, 1) := by decide +kernel
theorem dX5_readOther_60 : decode cX5_readOther 60 = .ok (.getfield 147, 3) := by decide +kernel
theorem dX5_readOther_63 : decode cX5_readOther 63 = .ok (.if_icmp .ne 9, 3) := by decide +kernel
theorem dX5_readOther_66 : decode cX5_readOther 66 = .ok (.aload_n 0, 1) := by decide +kernel
theorem dX5_readOther_67 : decode cX5_readOther 67 = .ok (.iconst 3, 1) := by decide +kernel
theorem dX5_readOther_68 : decode cX5_readOther 68 = .ok (.invokevirtual 72, 3) := by decide +kernel
theorem dX5_readOther_71 : decode cX5_readOther 71 = .ok (.ireturn, 1) := by decide +kernel
theorem dX5_readOther_72 : decode cX5_readOther 72 = .ok (.aload_n 1, 1) := by decide +kernel
theorem dX5_readOther_73 : decode cX5_readOther 73 = .ok (.getfield 144, 3) := by decide +kernel
theorem dX5_readOther_76 : decode cX5_readOther 76 = .ok (.iconst (-1), 1) := by decide +kernel
theorem dX5_readOther_77 : decode cX5_readOther 77 = .ok (.if_icmp .ne 11, 3) := by decide +kernel
theorem dX5_readOther_80 : decode cX5_readOther 80 = .ok (.aload_n 0, 1) := by decide +kernel
theorem dX5_readOther_81 : decode cX5_readOther 81 = .ok (.iconst 4, 1) := by decide +kernel
theorem dX5_readOther_82 : decode cX5_readOther 82 = .ok (.invokevirtual 72, 3) := by decide +kernel
theorem dX5_readOther_85 : decode cX5_readOther 85 = .ok (.goto 7, 3) := by decide +kernel
theorem dX5_readOther_88 : decode cX5_readOther 88 = .ok (.aload_n 0, 1) := by decide +kernel
theorem dX5_readOther_89 : decode cX5_readOther 89 = .ok (.invokevirtual 106, 3) := by decide +kernel
theorem dX5_readOther_92 : decode cX5_readOther 92 = .ok (.ireturn, 1) := by decide +kernel
set_option maxRecDepth 20000 in
theorem ggX5_readGapIfAny_X5_is : GoodIn wsX5_readGapIfAny wsX5_is := goodIn_r _ [6, 7, 8, 31, 32, 33, 34, 35, 36, 37, 38, 39, 40] rfl (by decide +kernel)
set_option maxRecDepth 20000 in
theorem gX5_readGapIfAny_X5_is : GoodIn wsX5_readGapIfAny (wsV RX5 51 RX5 yX5_is wsX5_is) := goodIn_app (goodIn_of _ (by decide +kernel)) ggX5_readGapIfAny_X5_is
set_option maxRecDepth 20000 in
theorem ggX5_readGapIfAny_X5_pass : GoodIn wsX5_readGapIfAny wsX5_pass := goodIn_r _ [12, 8, 31, 32, 33, 34, 35, 36] rfl (by decide +kernel)
set_option maxRecDepth 20000 in
theorem gX5_readGapIfAny_X5_pass : GoodIn wsX5_readGapIfAny (wsV RX5 106 RX5 yX5_pass wsX5_pass) := goodIn_app (goodIn_of _ (by decide +kernel)) ggX5_readGapIfAny_X5_pass
set_option maxRecDepth 20000 in
theorem ggX5_readGapIfAny_X5_readFirst : GoodIn wsX5_readGapIfAny wsX5_readFirst := goodIn_r _ [16, 17, 18, 19, 20, 5, 21, 22, 7, 8, 23, 24, 2, 3, 4, 6, 25, 26, 27, 28, 29, 30, 9, 10, 11, 12, 41, 42, 43, 44, 45, 46, 31, 32, 33, 34, 35, 36, 37, 38, 39, 40, 47, 48] rfl (by decide +kernel)
set_option maxRecDepth 20000 in
theorem gX5_readGapIfAny_X5_readFirst : GoodIn wsX5_readGapIfAny (wsV RX5 125 RX5 yX5_readFirst wsX5_readFirst) := goodIn_app (goodIn_of _ (by decide +kernel)) ggX5_readGapIfAny_X5_readFirst
theorem dX5_readGapIfAny_0 : decode cX5_readGapIfAny 0 = .ok (.aload_n 0, 1) := by decide +kernel
theorem dX5_readGapIfAny_1 : decode cX5_readGapIfAny 1 = .ok (.getstatic 150, 3) := by decide +kernel
theorem dX5_readGapIfAny_4 : decode cX5_readGapIfAny 4 = .ok (.invokevirtual 51, 3) := by decide +kernel
theorem dX5_readGapIfAny_7 : decode cX5_readGapIfAny 7 = .ok (.ifCond .ne 5, 3) := by decide +kernel
theorem dX5_readGapIfAny_10 : decode cX5_readGapIfAny 10 = .ok (.iconst 1, 1) := by decide +kernel
theorem dX5_readGapIfAny_11 : decode cX5_readGapIfAny 11 = .ok (.ireturn, 1) := by decide +kernel
theorem dX5_readGapIfAny_12 : decode cX5_readGapIfAny 12 = .ok (.aload_n 0, 1) := by decide +kernel
theorem dX5_readGapIfAny_13 : decode cX5_readGapIfAny 13 = .ok (.invokevirtual 106, 3) := by decide +kernel
theorem dX5_readGapIfAny_16 : decode cX5_readGapIfAny 16 = .ok (.pop, 1) := by decide +kernel
theorem dX5_readGapIfAny_17 : decode cX5_readGapIfAny 17 = .ok (.aload_n 0, 1) := by decide +kernel
theorem dX5_readGapIfAny_18 : decode cX5_readGapIfAny 18 = .ok (.aload_n 1, 1) := by decide +kernel
theorem dX5_readGapIfAny_19 : decode cX5_readGapIfAny 19 = .ok (.iconst 1, 1) := by decide +kernel
theorem dX5_readGapIfAny_20 : decode cX5_readGapIfAny 20 = .ok (.invokevirtual 125, 3) := by decide +kernel
theorem dX5_readGapIfAny_23 : decode cX5_readGapIfAny 23 = .ok (.ireturn, 1) := by decide +kernel
set_option maxRecDepth 20000 in
theorem ggX5_readFirst_X5_readNumber : GoodIn wsX5_readFirst wsX5_readNumber := goodIn_r _ [6, 7, 8, 9, 10, 11, 12, 13, 14, 5, 15, 16, 17, 18, 19, 20, 21, 22, 23, 24, 25, 32, 33, 34, 35, 36, 37, 38, 39, 40, 41, 42, 43] rfl (by decide +kernel)
set_option maxRecDepth 20000 in
theorem gX5_readFirst_X5_readNumber : GoodIn wsX5_readFirst (wsV RX5 153 RX5 yX5_readNumber wsX5_readNumber) := goodIn_app (goodIn_of _ (by decide +kernel)) ggX5_readFirst_X5_readNumber
theorem dX5_readFirst_0 : decode cX5_readFirst 0 = .ok (.aload_n 1, 1) := by decide +kernel
theorem dX5_readFirst_1 : decode cX5_readFirst 1 = .ok (.aload_n 0, 1) := by decide +kernel
theorem dX5_readFirst_2 : decode cX5_readFirst 2 = .ok (.iload_n 2, 1) := by decide +kernel
theorem dX5_readFirst_3 : decode cX5_readFirst 3 = .ok (.invokevirtual 153, 3) := by decide +kernel
theorem dX5_readFirst_6 : decode cX5_readFirst 6 = .ok (.putfield 157, 3) := by decide +kernel
theorem dX5_readFirst_9 : decode cX5_readFirst 9 = .ok (.aload_n 1, 1) := by decide +kernel
theorem dX5_readFirst_10 : decode cX5_readFirst 10 = .ok (.getfield 157, 3) := by decide +kernel
theorem dX5_readFirst_13 : decode cX5_readFirst 13 = .ok (.iconst (-1), 1) := by decide +kernel
theorem dX5_readFirst_14 : decode cX5_readFirst 14 = .ok (.if_icmp .eq 7, 3) := by decide +kernel
theorem dX5_readFirst_17 : decode cX5_readFirst 17 = .ok (.iconst 1, 1) := by decide +kernel
theorem dX5_readFirst_18 : decode cX5_readFirst 18 = .ok (.goto 4, 3) := by decide +kernel
theorem dX5_readFirst_21 : decode cX5_readFirst 21 = .ok (.iconst 0, 1) := by decide +kernel
theorem dX5_readFirst_22 : decode cX5_readFirst 22 = .ok (.ireturn, 1) := by decide +kernel
set_option maxRecDepth 20000 in
theorem ggX5_readSecondIfAny_X5_is : GoodIn wsX5_readSecondIfAny wsX5_is := goodIn_r _ [7, 8, 9, 38, 39, 40, 41, 42, 43, 44, 45, 46, 47] rfl (by decide +kernel)
set_option maxRecDepth 20000 in
theorem gX5_readSecondIfAny_X5_is : GoodIn wsX5_readSecondIfAny (wsV RX5 51 RX5 yX5_is wsX5_is) := goodIn_app (goodIn_of _ (by decide +kernel)) ggX5_readSecondIfAny_X5_is
set_option maxRecDepth 20000 in
theorem ggX5_readSecondIfAny_X5_readSecond : GoodIn wsX5_readSecondIfAny wsX5_readSecond := goodIn_r _ [13, 2, 1, 14, 3, 4, 5, 6, 7, 8, 9, 15, 16, 17, 18, 19, 20, 21, 22, 23, 24, 25, 26, 27, 28, 29, 30, 31, 32, 33, 34, 35, 36, 37, 38, 39, 40, 41, 42, 43, 44, 45, 46, 47, 48, 49] rfl (by decide +kernel)
set_option maxRecDepth 20000 in
theorem gX5_readSecondIfAny_X5_readSecond : GoodIn wsX5_readSecondIfAny (wsV RX5 129 RX5 yX5_readSecond wsX5_readSecond) := goodIn_app (goodIn_of _ (by decide +kernel)) ggX5_readSecondIfAny_X5_readSecond
theorem dX5_readSecondIfAny_0 : decode cX5_readSecondIfAny 0 = .ok (.aload_n 1, 1) := by decide +kernel
theorem dX5_readSecondIfAny_1 : decode cX5_readSecondIfAny 1 = .ok (.getfield 157, 3) := by decide +kernel
theorem dX5_readSecondIfAny_4 : decode cX5_readSecondIfAny 4 = .ok (.iconst (-1), 1) := by decide +kernel
theorem dX5_readSecondIfAny_5 : decode cX5_readSecondIfAny 5 = .ok (.if_icmp .eq 21, 3) := by decide +kernel
theorem dX5_readSecondIfAny_8 : decode cX5_readSecondIfAny 8 = .ok (.aload_n 0, 1) := by decide +kernel
theorem dX5_readSecondIfAny_9 : decode cX5_readSecondIfAny 9 = .ok (.getstatic 160, 3) := by decide +kernel
theorem dX5_readSecondIfAny_12 : decode cX5_readSecondIfAny 12 = .ok (.invokevirtual 51, 3) := by decide +kernel
theorem dX5_readSecondIfAny_15 : decode cX5_readSecondIfAny 15 = .ok (.ifCond .eq 11, 3) := by decide +kernel
theorem dX5_readSecondIfAny_18 : decode cX5_readSecondIfAny 18 = .ok (.aload_n 0, 1) := by decide +kernel
theorem dX5_readSecondIfAny_19 : decode cX5_readSecondIfAny 19 = .ok (.aload_n 1, 1) := by decide +kernel
theorem dX5_readSecondIfAny_20 : decode cX5_readSecondIfAny 20 = .ok (.invokevirtual 129, 3) := by decide +kernel
theorem dX5_readSecondIfAny_23 : decode cX5_readSecondIfAny 23 = .ok (.ifCond .eq 7, 3) := by decide +kernel
theorem dX5_readSecondIfAny_26 : decode cX5_readSecondIfAny 26 = .ok (.iconst 1, 1) := by decide +kernel
theorem dX5_readSecondIfAny_27 : decode cX5_readSecondIfAny 27 = .ok (.goto 4, 3) := by decide +kernel
theorem dX5_readSecondIfAny_30 : decode cX5_readSecondIfAny 30 = .ok (.iconst 0, 1) := by decide +kernel
theorem dX5_readSecondIfAny_31 : decode cX5_readSecondIfAny 31 = .ok (.ireturn, 1) := by decide +kernel
set_option maxRecDepth 20000 in
theorem ggX5_readSecond_X5_is : GoodIn wsX5_readSecond wsX5_is := goodIn_r _ [8, 9, 10, 34, 35, 36, 37, 38, 39, 40, 41, 42, 43] rfl (by decide +kernel)
set_option maxRecDepth 20000 in
theorem gX5_readSecond_X5_is : GoodIn wsX5_readSecond (wsV RX5 51 RX5 yX5_is wsX5_is) := goodIn_app (goodIn_of _ (by decide +kernel)) ggX5_readSecond_X5_is
set_option maxRecDepth 20000 in
theorem ggX5_readSecond_X5_refuse : GoodIn wsX5_readSecond wsX5_refuse := goodIn_r _ [14, 15, 9, 10, 16, 34, 35, 36, 37, 38, 39, 40, 41, 42, 43] rfl (by decide +kernel)
set_option maxRecDepth 20000 in
theorem gX5_readSecond_X5_refuse : GoodIn wsX5_readSecond (wsV RX5 72 RX5 yX5_refuse wsX5_refuse) := goodIn_app (goodIn_of _ (by decide +kernel)) ggX5_readSecond_X5_refuse
set_option maxRecDepth 20000 in
theorem ggX5_readSecond_X5_pass : GoodIn wsX5_readSecond wsX5_pass := goodIn_r _ [20, 10, 34, 35, 36, 37, 38, 39] rfl (by decide +kernel)
set_option maxRecDepth 20000 in
theorem gX5_readSecond_X5_pass : GoodIn wsX5_readSecond (wsV RX5 106 RX5 yX5_pass wsX5_pass) := goodIn_app (goodIn_of _ (by decide +kernel)) ggX5_readSecond_X5_pass
set_option maxRecDepth 20000 in
theorem ggX5_readSecond_X5_readNumber : GoodIn wsX5_readSecond wsX5_readNumber := goodIn_r _ [24, 25, 9, 10, 26, 27, 4, 5, 6, 7, 8, 11, 12, 13, 14, 15, 16, 17, 18, 19, 20, 34, 35, 36, 37, 38, 39, 40, 41, 42, 43, 44, 45] rfl (by decide +kernel)
set_option maxRecDepth 20000 in
theorem gX5_readSecond_X5_readNumber : GoodIn wsX5_readSecond (wsV RX5 153 RX5 yX5_readNumber wsX5_readNumber) := goodIn_app (goodIn_of _ (by decide +kernel)) ggX5_readSecond_X5_readNumber
theorem dX5_readSecond_0 : decode cX5_readSecond 0 = .ok (.aload_n 0, 1) := by decide +kernel
theorem dX5_readSecond_1 : decode cX5_readSecond 1 = .ok (.getstatic 160, 3) := by decide +kernel
theorem dX5_readSecond_4 : decode cX5_readSecond 4 = .ok (.invokevirtual 51, 3) := by decide +kernel
theorem dX5_readSecond_7 : decode cX5_readSecond 7 = .ok (.ifCond .ne 9, 3) := by decide +kernel
theorem dX5_readSecond_10 : decode cX5_readSecond 10 = .ok (.aload_n 0, 1) := by decide +kernel
theorem dX5_readSecond_11 : decode cX5_readSecond 11 = .ok (.iconst 1, 1) := by decide +kernel
theorem dX5_readSecond_12 : decode cX5_readSecond 12 = .ok (.invokevirtual 72, 3) := by decide +kernel
theorem dX5_readSecond_15 : decode cX5_readSecond 15 = .ok (.ireturn, 1) := by decide +kernel
theorem dX5_readSecond_16 : decode cX5_readSecond 16 = .ok (.aload_n 0, 1) := by decide +kernel
theorem dX5_readSecond_17 : decode cX5_readSecond 17 = .ok (.invokevirtual 106, 3) := by decide +kernel
theorem dX5_readSecond_20 : decode cX5_readSecond 20 = .ok (.pop, 1) := by decide +kernel
theorem dX5_readSecond_21 : decode cX5_readSecond 21 = .ok (.aload_n 1, 1) := by decide +kernel
theorem dX5_readSecond_22 : decode cX5_readSecond 22 = .ok (.aload_n 0, 1) := by decide +kernel
theorem dX5_readSecond_23 : decode cX5_readSecond 23 = .ok (.aload_n 1, 1) := by decide +kernel
theorem dX5_readSecond_24 : decode cX5_readSecond 24 = .ok (.getfield 157, 3) := by decide +kernel
theorem dX5_readSecond_27 : decode cX5_readSecond 27 = .ok (.invokevirtual 153, 3) := by decide +kernel
theorem dX5_readSecond_30 : decode cX5_readSecond 30 = .ok (.putfield 163, 3) := by decide +kernel
theorem dX5_readSecond_33 : decode cX5_readSecond 33 = .ok (.aload_n 1, 1) := by decide +kernel
theorem dX5_readSecond_34 : decode cX5_readSecond 34 = .ok (.getfield 163, 3) := by decide +kernel
theorem dX5_readSecond_37 : decode cX5_readSecond 37 = .ok (.iconst (-1), 1) := by decide +kernel
theorem dX5_readSecond_38 : decode cX5_readSecond 38 = .ok (.if_icmp .eq 7, 3) := by decide +kernel
theorem dX5_readSecond_41 : decode cX5_readSecond 41 = .ok (.iconst 1, 1) := by decide +kernel
theorem dX5_readSecond_42 : decode cX5_readSecond 42 = .ok (.goto 4, 3) := by decide +kernel
theorem dX5_readSecond_45 : decode cX5_readSecond 45 = .ok (.iconst 0, 1) := by decide +kernel
theorem dX5_readSecond_46 : decode cX5_readSecond 46 = .ok (.ireturn, 1) := by decide +kernel
set_option maxRecDepth 20000 in
theorem ggX5_readStop_X5_is : GoodIn wsX5_readStop wsX5_is := goodIn_r _ [6, 7, 8, 19, 20, 21, 22, 23, 24, 25, 26, 27, 28] rfl (by decide +kernel)
set_option maxRecDepth 20000 in
theorem gX5_readStop_X5_is : GoodIn wsX5_readStop (wsV RX5 51 RX5 yX5_is wsX5_is) := goodIn_app (goodIn_of _ (by decide +kernel)) ggX5_readStop_X5_is
set_option maxRecDepth 20000 in
theorem ggX5_readStop_X5_pass : GoodIn wsX5_readStop wsX5_pass := goodIn_r _ [12, 8, 19, 20, 21, 22, 23, 24] rfl (by decide +kernel)
set_option maxRecDepth 20000 in
theorem gX5_readStop_X5_pass : GoodIn wsX5_readStop (wsV RX5 106 RX5 yX5_pass wsX5_pass) := goodIn_app (goodIn_of _ (by decide +kernel)) ggX5_readStop_X5_pass
set_option maxRecDepth 20000 in
theorem ggX5_readStop_X5_refuse : GoodIn wsX5_readStop wsX5_refuse := goodIn_r _ [16, 17, 7, 8, 18, 19, 20, 21, 22, 23, 24, 25, 26, 27, 28] rfl (by decide +kernel)
set_option maxRecDepth 20000 in
theorem gX5_readStop_X5_refuse : GoodIn wsX5_readStop (wsV RX5 72 RX5 yX5_refuse wsX5_refuse) := goodIn_app (goodIn_of _ (by decide +kernel)) ggX5_readStop_X5_refuse
theorem dX5_readStop_0 : decode cX5_readStop 0 = .ok (.aload_n 0, 1) := by decide +kernel
theorem dX5_readStop_1 : decode cX5_readStop 1 = .ok (.getstatic 166, 3) := by decide +kernel
theorem dX5_readStop_4 : decode cX5_readStop 4 = .ok (.invokevirtual 51, 3) := by decide +kernel
theorem dX5_readStop_7 : decode cX5_readStop 7 = .ok (.ifCond .eq 10, 3) := by decide +kernel
theorem dX5_readStop_10 : decode cX5_readStop 10 = .ok (.aload_n 0, 1) := by decide +kernel
theorem dX5_readStop_11 : decode cX5_readStop 11 = .ok (.invokevirtual 106, 3) := by decide +kernel
theorem dX5_readStop_14 : decode cX5_readStop 14 = .ok (.goto 8, 3) := by decide +kernel
theorem dX5_readStop_17 : decode cX5_readStop 17 = .ok (.aload_n 0, 1) := by decide +kernel
theorem dX5_readStop_18 : decode cX5_readStop 18 = .ok (.iconst 1, 1) := by decide +kernel
theorem dX5_readStop_19 : decode cX5_readStop 19 = .ok (.invokevirtual 72, 3) := by decide +kernel
theorem dX5_readStop_22 : decode cX5_readStop 22 = .ok (.ireturn, 1) := by decide +kernel
set_option maxRecDepth 20000 in
theorem ggX5_readNumber_X5_is : GoodIn wsX5_readNumber wsX5_is := goodIn_r _ [10, 2, 3, 21, 22, 23, 24, 25, 26, 27, 28, 29, 30] rfl (by decide +kernel)
set_option maxRecDepth 20000 in
theorem gX5_readNumber_X5_is : GoodIn wsX5_readNumber (wsV RX5 51 RX5 yX5_is wsX5_is) := goodIn_app (goodIn_of _ (by decide +kernel)) ggX5_readNumber_X5_is
set_option maxRecDepth 20000 in
theorem ggX5_readNumber_X5_refuse : GoodIn wsX5_readNumber wsX5_refuse := goodIn_r _ [14, 15, 2, 3, 16, 21, 22, 23, 24, 25, 26, 27, 28, 29, 30] rfl (by decide +kernel)
set_option maxRecDepth 20000 in
theorem gX5_readNumber_X5_refuse : GoodIn wsX5_readNumber (wsV RX5 72 RX5 yX5_refuse wsX5_refuse) := goodIn_app (goodIn_of _ (by decide +kernel)) ggX5_readNumber_X5_refuse
set_option maxRecDepth 20000 in
theorem ggX5_readNumber_X5_pass : GoodIn wsX5_readNumber wsX5_pass := goodIn_r _ [20, 3, 21, 22, 23, 24, 25, 26] rfl (by decide +kernel)
set_option maxRecDepth 20000 in
theorem gX5_readNumber_X5_pass : GoodIn wsX5_readNumber (wsV RX5 106 RX5 yX5_pass wsX5_pass) := goodIn_app (goodIn_of _ (by decide +kernel)) ggX5_readNumber_X5_pass
theorem dX5_readNumber_0 : decode cX5_readNumber 0 = .ok (.aload_n 0, 1) := by decide +kernel
theorem dX5_readNumber_1 : decode cX5_readNumber 1 = .ok (.getstatic 169, 3) := by decide +kernel
theorem dX5_readNumber_4 : decode cX5_readNumber 4 = .ok (.invokevirtual 51, 3) := by decide +kernel
theorem dX5_readNumber_7 : decode cX5_readNumber 7 = .ok (.ifCond .ne 11, 3) := by decide +kernel
theorem dX5_readNumber_10 : decode cX5_readNumber 10 = .ok (.aload_n 0, 1) := by decide +kernel
theorem dX5_readNumber_11 : decode cX5_readNumber 11 = .ok (.iconst 1, 1) := by decide +kernel
theorem dX5_readNumber_12 : decode cX5_readNumber 12 = .ok (.invokevirtual 72, 3) := by decide +kernel
theorem dX5_readNumber_15 : decode cX5_readNumber 15 = .ok (.pop, 1) := by decide +kernel
theorem dX5_readNumber_16 : decode cX5_readNumber 16 = .ok (.iconst (-1), 1) := by decide +kernel
theorem dX5_readNumber_17 : decode cX5_readNumber 17 = .ok (.ireturn, 1) := by decide +kernel
theorem dX5_readNumber_18 : decode cX5_readNumber 18 = .ok (.iconst 0, 1) := by decide +kernel
theorem dX5_readNumber_19 : decode cX5_readNumber 19 = .ok (.istore_n 2, 1) := by decide +kernel
theorem dX5_readNumber_20 : decode cX5_readNumber 20 = .ok (.iconst 0, 1) := by decide +kernel
theorem dX5_readNumber_21 : decode cX5_readNumber 21 = .ok (.istore_n 3, 1) := by decide +kernel
theorem dX5_readNumber_22 : decode cX5_readNumber 22 = .ok (.iload_n 3, 1) := by decide +kernel
theorem dX5_readNumber_23 : decode cX5_readNumber 23 = .ok (.aload_n 0, 1) := by decide +kernel
theorem dX5_readNumber_24 : decode cX5_readNumber 24 = .ok (.getfield 12, 3) := by decide +kernel
theorem dX5_readNumber_27 : decode cX5_readNumber 27 = .ok (.getfield 93, 3) := by decide +kernel
theorem dX5_readNumber_30 : decode cX5_readNumber 30 = .ok (.aload_n 0, 1) := by decide +kernel
theorem dX5_readNumber_31 : decode cX5_readNumber 31 = .ok (.getfield 18, 3) := by decide +kernel
theorem dX5_readNumber_34 : decode cX5_readNumber 34 = .ok (.iaload, 1) := by decide +kernel
theorem dX5_readNumber_35 : decode cX5_readNumber 35 = .ok (.if_icmp .ge 40, 3) := by decide +kernel
theorem dX5_readNumber_38 : decode cX5_readNumber 38 = .ok (.bipush 10, 2) := by decide +kernel
theorem dX5_readNumber_40 : decode cX5_readNumber 40 = .ok (.iload_n 2, 1) := by decide +kernel
theorem dX5_readNumber_41 : decode cX5_readNumber 41 = .ok (.imul, 1) := by decide +kernel
theorem dX5_readNumber_42 : decode cX5_readNumber 42 = .ok (.aload_n 0, 1) := by decide +kernel
theorem dX5_readNumber_43 : decode cX5_readNumber 43 = .ok (.getfield 28, 3) := by decide +kernel
theorem dX5_readNumber_46 : decode cX5_readNumber 46 = .ok (.getfield 172, 3) := by decide +kernel
theorem dX5_readNumber_49 : decode cX5_readNumber 49 = .ok (.aload_n 0, 1) := by decide +kernel
theorem dX5_readNumber_50 : decode cX5_readNumber 50 = .ok (.getfield 12, 3) := by decide +kernel
theorem dX5_readNumber_53 : decode cX5_readNumber 53 = .ok (.getfield 86, 3) := by decide +kernel
theorem dX5_readNumber_56 : decode cX5_readNumber 56 = .ok (.aload_n 0, 1) := by decide +kernel
theorem dX5_readNumber_57 : decode cX5_readNumber 57 = .ok (.getfield 18, 3) := by decide +kernel
theorem dX5_readNumber_60 : decode cX5_readNumber 60 = .ok (.iaload, 1) := by decide +kernel
theorem dX5_readNumber_61 : decode cX5_readNumber 61 = .ok (.iload_n 3, 1) := by decide +kernel
theorem dX5_readNumber_62 : decode cX5_readNumber 62 = .ok (.iadd, 1) := by decide +kernel
theorem dX5_readNumber_63 : decode cX5_readNumber 63 = .ok (.baload, 1) := by decide +kernel
theorem dX5_readNumber_64 : decode cX5_readNumber 64 = .ok (.iadd, 1) := by decide +kernel
theorem dX5_readNumber_65 : decode cX5_readNumber 65 = .ok (.bipush 48, 2) := by decide +kernel
theorem dX5_readNumber_67 : decode cX5_readNumber 67 = .ok (.isub, 1) := by decide +kernel
theorem dX5_readNumber_68 : decode cX5_readNumber 68 = .ok (.istore_n 2, 1) := by decide +kernel
theorem dX5_readNumber_69 : decode cX5_readNumber 69 = .ok (.iinc 3 1, 3) := by decide +kernel
theorem dX5_readNumber_72 : decode cX5_readNumber 72 = .ok (.goto (-50), 3) := by decide +kernel
theorem dX5_readNumber_75 : decode cX5_readNumber 75 = .ok (.iload_n 2, 1) := by decide +kernel
theorem dX5_readNumber_76 : decode cX5_readNumber 76 = .ok (.iload_n 1, 1) := by decide +kernel
theorem dX5_readNumber_77 : decode cX5_readNumber 77 = .ok (.if_icmp .ge 11, 3) := by decide +kernel
theorem dX5_readNumber_80 : decode cX5_readNumber 80 = .ok (.aload_n 0, 1) := by decide +kernel
theorem dX5_readNumber_81 : decode cX5_readNumber 81 = .ok (.iconst 2, 1) := by decide +kernel
theorem dX5_readNumber_82 : decode cX5_readNumber 82 = .ok (.invokevirtual 72, 3) := by decide +kernel
theorem dX5_readNumber_85 : decode cX5_readNumber 85 = .ok (.pop, 1) := by decide +kernel
theorem dX5_readNumber_86 : decode cX5_readNumber 86 = .ok (.iconst (-1), 1) := by decide +kernel
theorem dX5_readNumber_87 : decode cX5_readNumber 87 = .ok (.ireturn, 1) := by decide +kernel
theorem dX5_readNumber_88 : decode cX5_readNumber 88 = .ok (.aload_n 0, 1) := by decide +kernel
theorem dX5_readNumber_89 : decode cX5_readNumber 89 = .ok (.invokevirtual 106, 3) := by decide +kernel
theorem dX5_readNumber_92 : decode cX5_readNumber 92 = .ok (.pop, 1) := by decide +kernel
theorem dX5_readNumber_93 : decode cX5_readNumber 93 = .ok (.iload_n 2, 1) := by decide +kernel
theorem dX5_readNumber_94 : decode cX5_readNumber 94 = .ok (.ireturn, 1) := by decide +kernel
theorem dX10_init_0 : decode cX10_init 0 = .ok (.aload_n 0, 1) := by decide +kernel
theorem dX10_init_1 : decode cX10_init 1 = .ok (.invokespecial 3, 3) := by decide +kernel
theorem dX10_init_4 : decode cX10_init 4 = .ok (.aload_n 0, 1) := by decide +kernel
theorem dX10_init_5 : decode cX10_init 5 = .ok (.sipush 401, 3) := by decide +kernel
theorem dX10_init_8 : decode cX10_init 8 = .ok (.anewarray 9, 3) := by decide +kernel
theorem dX10_init_11 : decode cX10_init 11 = .ok (.putfield 11, 3) := by decide +kernel
theorem dX10_init_14 : decode cX10_init 14 = .ok (.aload_n 0, 1) := by decide +kernel
theorem dX10_init_15 : decode cX10_init 15 = .ok (.sipush 401, 3) := by decide +kernel
theorem dX10_init_18 : decode cX10_init 18 = .ok (.newarray .int, 2) := by decide +kernel
theorem dX10_init_20 : decode cX10_init 20 = .ok (.putfield 17, 3) := by decide +kernel
theorem dX10_init_23 : decode cX10_init 23 = .ok (.aload_n 0, 1) := by decide +kernel
theorem dX10_init_24 : decode cX10_init 24 = .ok (.sipush 401, 3) := by decide +kernel
theorem dX10_init_27 : decode cX10_init 27 = .ok (.newarray .int, 2) := by decide +kernel
theorem dX10_init_29 : decode cX10_init 29 = .ok (.putfield 21, 3) := by decide +kernel
theorem dX10_init_32 : decode cX10_init 32 = .ok (.aload_n 0, 1) := by decide +kernel
theorem dX10_init_33 : decode cX10_init 33 = .ok (.iconst 0, 1) := by decide +kernel
theorem dX10_init_34 : decode cX10_init 34 = .ok (.putfield 24, 3) := by decide +kernel
theorem dX10_init_37 : decode cX10_init 37 = .ok (.iconst 0, 1) := by decide +kernel
theorem dX10_init_38 : decode cX10_init 38 = .ok (.istore_n 1, 1) := by decide +kernel
theorem dX10_init_39 : decode cX10_init 39 = .ok (.iload_n 1, 1) := by decide +kernel
theorem dX10_init_40 : decode cX10_init 40 = .ok (.sipush 400, 3) := by decide +kernel
theorem dX10_init_43 : decode cX10_init 43 = .ok (.if_icmp .gt 18, 3) := by decide +kernel
theorem dX10_init_46 : decode cX10_init 46 = .ok (.aload_n 0, 1) := by decide +kernel
theorem dX10_init_47 : decode cX10_init 47 = .ok (.getfield 11, 3) := by decide +kernel
theorem dX10_init_50 : decode cX10_init 50 = .ok (.iload_n 1, 1) := by decide +kernel
theorem dX10_init_51 : decode cX10_init 51 = .ok (.getstatic 28, 3) := by decide +kernel
theorem dX10_init_54 : decode cX10_init 54 = .ok (.aastore, 1) := by decide +kernel
theorem dX10_init_55 : decode cX10_init 55 = .ok (.iinc 1 1, 3) := by decide +kernel
theorem dX10_init_58 : decode cX10_init 58 = .ok (.goto (-19), 3) := by decide +kernel
theorem dX10_init_61 : decode cX10_init 61 = .ok (.return_, 1) := by decide +kernel
set_option maxRecDepth 20000 in
theorem ggX10_cut_X7_isBlank : GoodIn wsX10_cut wsX7_isBlank := goodIn_r _ [12, 13, 100, 101] rfl (by decide +kernel)
set_option maxRecDepth 20000 in
theorem gX10_cut_X7_isBlank : GoodIn wsX10_cut (wsV RX10 43 RX7 yX7_isBlank wsX7_isBlank) := goodIn_app (goodIn_of _ (by decide +kernel)) ggX10_cut_X7_isBlank
set_option maxRecDepth 20000 in
theorem ggX10_cut_X10_lengthAt : GoodIn wsX10_cut wsX10_lengthAt := goodIn_r _ [17, 1, 18, 19, 4, 20, 21, 22, 23, 11, 24, 13, 25, 26, 27, 28, 100, 101] rfl (by decide +kernel)
set_option maxRecDepth 20000 in
theorem gX10_cut_X10_lengthAt : GoodIn wsX10_cut (va_wsS RX10 47 yX10_lengthAt wsX10_lengthAt) := goodIn_app (goodIn_of _ (by decide +kernel)) ggX10_cut_X10_lengthAt
set_option maxRecDepth 20000 in
theorem ggX10_cut_X10_typeAt : GoodIn wsX10_cut wsX10_typeAt := goodIn_r _ [31, 32, 33, 34, 35, 25, 26, 27, 11, 28, 13, 21, 22, 23, 24, 36, 37, 16, 38, 39, 40, 41, 42, 43, 44, 45, 46, 47, 48, 49, 50, 51, 52, 53, 54, 55, 56, 57, 58, 59, 60, 61, 62, 63, 64, 65, 66, 67, 68, 69, 70, 71, 72, 73, 74, 75, 76, 77, 78, 79, 80, 81, 82, 83, 84, 85, 86, 87, 88, 89, 90, 91, 92, 100, 101] rfl (by decide +kernel)
set_option maxRecDepth 20000 in
theorem gX10_cut_X10_typeAt : GoodIn wsX10_cut (va_wsS RX10 51 yX10_typeAt wsX10_typeAt) := goodIn_app (goodIn_of _ (by decide +kernel)) ggX10_cut_X10_typeAt
set_option maxRecDepth 20000 in
theorem ggX10_cut_X10_put : GoodIn wsX10_cut wsX10_put := goodIn_r _ [96, 6, 97, 98, 99, 102, 103, 104, 105] rfl (by decide +kernel)
set_option maxRecDepth 20000 in
theorem gX10_cut_X10_put : GoodIn wsX10_cut (wsV RX10 55 RX10 yX10_put wsX10_put) := goodIn_app (goodIn_of _ (by decide +kernel)) ggX10_cut_X10_put
theorem dX10_cut_0 : decode cX10_cut 0 = .ok (.aload_n 1, 1) := by decide +kernel
theorem dX10_cut_1 : decode cX10_cut 1 = .ok (.getfield 32, 3) := by decide +kernel
theorem dX10_cut_4 : decode cX10_cut 4 = .ok (.sipush 400, 3) := by decide +kernel
theorem dX10_cut_7 : decode cX10_cut 7 = .ok (.invokestatic 37, 3) := by decide +kernel
theorem dX10_cut_10 : decode cX10_cut 10 = .ok (.istore_n 2, 1) := by decide +kernel
theorem dX10_cut_11 : decode cX10_cut 11 = .ok (.aload_n 0, 1) := by decide +kernel
theorem dX10_cut_12 : decode cX10_cut 12 = .ok (.iconst 0, 1) := by decide +kernel
theorem dX10_cut_13 : decode cX10_cut 13 = .ok (.putfield 24, 3) := by decide +kernel
theorem dX10_cut_16 : decode cX10_cut 16 = .ok (.iconst 0, 1) := by decide +kernel
theorem dX10_cut_17 : decode cX10_cut 17 = .ok (.istore_n 3, 1) := by decide +kernel
theorem dX10_cut_18 : decode cX10_cut 18 = .ok (.iload_n 3, 1) := by decide +kernel
theorem dX10_cut_19 : decode cX10_cut 19 = .ok (.iload_n 2, 1) := by decide +kernel
theorem dX10_cut_20 : decode cX10_cut 20 = .ok (.if_icmp .ge 45, 3) := by decide +kernel
theorem dX10_cut_23 : decode cX10_cut 23 = .ok (.aload_n 1, 1) := by decide +kernel
theorem dX10_cut_24 : decode cX10_cut 24 = .ok (.iload_n 3, 1) := by decide +kernel
theorem dX10_cut_25 : decode cX10_cut 25 = .ok (.invokevirtual 43, 3) := by decide +kernel
theorem dX10_cut_28 : decode cX10_cut 28 = .ok (.ifCond .ne 31, 3) := by decide +kernel
theorem dX10_cut_31 : decode cX10_cut 31 = .ok (.aload_n 1, 1) := by decide +kernel
theorem dX10_cut_32 : decode cX10_cut 32 = .ok (.iload_n 3, 1) := by decide +kernel
theorem dX10_cut_33 : decode cX10_cut 33 = .ok (.invokestatic 47, 3) := by decide +kernel
theorem dX10_cut_36 : decode cX10_cut 36 = .ok (.istore 4, 2) := by decide +kernel
theorem dX10_cut_38 : decode cX10_cut 38 = .ok (.aload_n 0, 1) := by decide +kernel
theorem dX10_cut_39 : decode cX10_cut 39 = .ok (.aload_n 1, 1) := by decide +kernel
theorem dX10_cut_40 : decode cX10_cut 40 = .ok (.iload_n 3, 1) := by decide +kernel
theorem dX10_cut_41 : decode cX10_cut 41 = .ok (.iload 4, 2) := by decide +kernel
theorem dX10_cut_43 : decode cX10_cut 43 = .ok (.invokestatic 51, 3) := by decide +kernel
theorem dX10_cut_46 : decode cX10_cut 46 = .ok (.iload_n 3, 1) := by decide +kernel
theorem dX10_cut_47 : decode cX10_cut 47 = .ok (.iload 4, 2) := by decide +kernel
theorem dX10_cut_49 : decode cX10_cut 49 = .ok (.invokevirtual 55, 3) := by decide +kernel
theorem dX10_cut_52 : decode cX10_cut 52 = .ok (.iload_n 3, 1) := by decide +kernel
theorem dX10_cut_53 : decode cX10_cut 53 = .ok (.iload 4, 2) := by decide +kernel
theorem dX10_cut_55 : decode cX10_cut 55 = .ok (.iconst 1, 1) := by decide +kernel
theorem dX10_cut_56 : decode cX10_cut 56 = .ok (.isub, 1) := by decide +kernel
theorem dX10_cut_57 : decode cX10_cut 57 = .ok (.iadd, 1) := by decide +kernel
theorem dX10_cut_58 : decode cX10_cut 58 = .ok (.istore_n 3, 1) := by decide +kernel
theorem dX10_cut_59 : decode cX10_cut 59 = .ok (.iinc 3 1, 3) := by decide +kernel
theorem dX10_cut_62 : decode cX10_cut 62 = .ok (.goto (-44), 3) := by decide +kernel
theorem dX10_cut_65 : decode cX10_cut 65 = .ok (.aload_n 0, 1) := by decide +kernel
theorem dX10_cut_66 : decode cX10_cut 66 = .ok (.getstatic 28, 3) := by decide +kernel
theorem dX10_cut_69 : decode cX10_cut 69 = .ok (.iload_n 2, 1) := by decide +kernel
theorem dX10_cut_70 : decode cX10_cut 70 = .ok (.iconst 0, 1) := by decide +kernel
theorem dX10_cut_71 : decode cX10_cut 71 = .ok (.invokevirtual 55, 3) := by decide +kernel
theorem dX10_cut_74 : decode cX10_cut 74 = .ok (.return_, 1) := by decide +kernel
theorem dX10_put_0 : decode cX10_put 0 = .ok (.aload_n 0, 1) := by decide +kernel
theorem dX10_put_1 : decode cX10_put 1 = .ok (.getfield 24, 3) := by decide +kernel
theorem dX10_put_4 : decode cX10_put 4 = .ok (.sipush 400, 3) := by decide +kernel
theorem dX10_put_7 : decode cX10_put 7 = .ok (.if_icmp .gt 43, 3) := by decide +kernel
theorem dX10_put_10 : decode cX10_put 10 = .ok (.aload_n 0, 1) := by decide +kernel
theorem dX10_put_11 : decode cX10_put 11 = .ok (.getfield 11, 3) := by decide +kernel
theorem dX10_put_14 : decode cX10_put 14 = .ok (.aload_n 0, 1) := by decide +kernel
theorem dX10_put_15 : decode cX10_put 15 = .ok (.getfield 24, 3) := by decide +kernel
theorem dX10_put_18 : decode cX10_put 18 = .ok (.aload_n 1, 1) := by decide +kernel
theorem dX10_put_19 : decode cX10_put 19 = .ok (.aastore, 1) := by decide +kernel
theorem dX10_put_20 : decode cX10_put 20 = .ok (.aload_n 0, 1) := by decide +kernel
theorem dX10_put_21 : decode cX10_put 21 = .ok (.getfield 17, 3) := by decide +kernel
theorem dX10_put_24 : decode cX10_put 24 = .ok (.aload_n 0, 1) := by decide +kernel
theorem dX10_put_25 : decode cX10_put 25 = .ok (.getfield 24, 3) := by decide +kernel
theorem dX10_put_28 : decode cX10_put 28 = .ok (.iload_n 2, 1) := by decide +kernel
theorem dX10_put_29 : decode cX10_put 29 = .ok (.iastore, 1) := by decide +kernel
theorem dX10_put_30 : decode cX10_put 30 = .ok (.aload_n 0, 1) := by decide +kernel
theorem dX10_put_31 : decode cX10_put 31 = .ok (.getfield 21, 3) := by decide +kernel
theorem dX10_put_34 : decode cX10_put 34 = .ok (.aload_n 0, 1) := by decide +kernel
theorem dX10_put_35 : decode cX10_put 35 = .ok (.getfield 24, 3) := by decide +kernel
theorem dX10_put_38 : decode cX10_put 38 = .ok (.iload_n 3, 1) := by decide +kernel
theorem dX10_put_39 : decode cX10_put 39 = .ok (.iastore, 1) := by decide +kernel
theorem dX10_put_40 : decode cX10_put 40 = .ok (.aload_n 0, 1) := by decide +kernel
theorem dX10_put_41 : decode cX10_put 41 = .ok (.dup, 1) := by decide +kernel
theorem dX10_put_42 : decode cX10_put 42 = .ok (.getfield 24, 3) := by decide +kernel
theorem dX10_put_45 : decode cX10_put 45 = .ok (.iconst 1, 1) := by decide +kernel
theorem dX10_put_46 : decode cX10_put 46 = .ok (.iadd, 1) := by decide +kernel
theorem dX10_put_47 : decode cX10_put 47 = .ok (.putfield 24, 3) := by decide +kernel
theorem dX10_put_50 : decode cX10_put 50 = .ok (.return_, 1) := by decide +kernel
set_option maxRecDepth 20000 in
theorem ggX10_lengthAt_X7_isLetter : GoodIn wsX10_lengthAt wsX7_isLetter := goodIn_r _ [10, 11, 16, 17] rfl (by decide +kernel)
set_option maxRecDepth 20000 in
theorem gX10_lengthAt_X7_isLetter : GoodIn wsX10_lengthAt (wsV RX10 59 RX7 yX7_isLetter wsX7_isLetter) := goodIn_app (goodIn_of _ (by decide +kernel)) ggX10_lengthAt_X7_isLetter
set_option maxRecDepth 20000 in
theorem ggX10_lengthAt_X7_isDigit : GoodIn wsX10_lengthAt wsX7_isDigit := goodIn_r _ [15, 11, 16, 17] rfl (by decide +kernel)
set_option maxRecDepth 20000 in
theorem gX10_lengthAt_X7_isDigit : GoodIn wsX10_lengthAt (wsV RX10 62 RX7 yX7_isDigit wsX7_isDigit) := goodIn_app (goodIn_of _ (by decide +kernel)) ggX10_lengthAt_X7_isDigit
theorem dX10_lengthAt_0 : decode cX10_lengthAt 0 = .ok (.iconst 0, 1) := by decide +kernel
theorem dX10_lengthAt_1 : decode cX10_lengthAt 1 = .ok (.istore_n 2, 1) := by decide +kernel
theorem dX10_lengthAt_2 : decode cX10_lengthAt 2 = .ok (.iload_n 1, 1) := by decide +kernel
theorem dX10_lengthAt_3 : decode cX10_lengthAt 3 = .ok (.istore_n 3, 1) := by decide +kernel
theorem dX10_lengthAt_4 : decode cX10_lengthAt 4 = .ok (.iload_n 3, 1) := by decide +kernel
theorem dX10_lengthAt_5 : decode cX10_lengthAt 5 = .ok (.aload_n 0, 1) := by decide +kernel
theorem dX10_lengthAt_6 : decode cX10_lengthAt 6 = .ok (.getfield 32, 3) := by decide +kernel
theorem dX10_lengthAt_9 : decode cX10_lengthAt 9 = .ok (.if_icmp .ge 31, 3) := by decide +kernel
theorem dX10_lengthAt_12 : decode cX10_lengthAt 12 = .ok (.aload_n 0, 1) := by decide +kernel
theorem dX10_lengthAt_13 : decode cX10_lengthAt 13 = .ok (.iload_n 3, 1) := by decide +kernel
theorem dX10_lengthAt_14 : decode cX10_lengthAt 14 = .ok (.invokevirtual 59, 3) := by decide +kernel
theorem dX10_lengthAt_17 : decode cX10_lengthAt 17 = .ok (.ifCond .ne 14, 3) := by decide +kernel
theorem dX10_lengthAt_20 : decode cX10_lengthAt 20 = .ok (.aload_n 0, 1) := by decide +kernel
theorem dX10_lengthAt_21 : decode cX10_lengthAt 21 = .ok (.iload_n 3, 1) := by decide +kernel
theorem dX10_lengthAt_22 : decode cX10_lengthAt 22 = .ok (.invokevirtual 62, 3) := by decide +kernel
theorem dX10_lengthAt_25 : decode cX10_lengthAt 25 = .ok (.ifCond .ne 6, 3) := by decide +kernel
theorem dX10_lengthAt_28 : decode cX10_lengthAt 28 = .ok (.goto 12, 3) := by decide +kernel
theorem dX10_lengthAt_31 : decode cX10_lengthAt 31 = .ok (.iinc 2 1, 3) := by decide +kernel
theorem dX10_lengthAt_34 : decode cX10_lengthAt 34 = .ok (.iinc 3 1, 3) := by decide +kernel
theorem dX10_lengthAt_37 : decode cX10_lengthAt 37 = .ok (.goto (-33), 3) := by decide +kernel
theorem dX10_lengthAt_40 : decode cX10_lengthAt 40 = .ok (.iload_n 2, 1) := by decide +kernel
theorem dX10_lengthAt_41 : decode cX10_lengthAt 41 = .ok (.iconst 1, 1) := by decide +kernel
theorem dX10_lengthAt_42 : decode cX10_lengthAt 42 = .ok (.invokestatic 65, 3) := by decide +kernel
theorem dX10_lengthAt_45 : decode cX10_lengthAt 45 = .ok (.ireturn, 1) := by decide +kernel
set_option maxRecDepth 20000 in
theorem ggX10_typeAt_X7_isDigit : GoodIn wsX10_typeAt wsX7_isDigit := goodIn_r _ [9, 10, 73, 74] rfl (by decide +kernel)
set_option maxRecDepth 20000 in
theorem gX10_typeAt_X7_isDigit : GoodIn wsX10_typeAt (wsV RX10 62 RX7 yX7_isDigit wsX7_isDigit) := goodIn_app (goodIn_of _ (by decide +kernel)) ggX10_typeAt_X7_isDigit
set_option maxRecDepth 20000 in
theorem ggX10_typeAt_X7_isLetter : GoodIn wsX10_typeAt wsX7_isLetter := goodIn_r _ [14, 10, 73, 74] rfl (by decide +kernel)
set_option maxRecDepth 20000 in
theorem gX10_typeAt_X7_isLetter : GoodIn wsX10_typeAt (wsV RX10 59 RX7 yX7_isLetter wsX7_isLetter) := goodIn_app (goodIn_of _ (by decide +kernel)) ggX10_typeAt_X7_isLetter
set_option maxRecDepth 20000 in
theorem ggX10_typeAt_X10_wordAt : GoodIn wsX10_typeAt wsX10_wordAt := goodIn_r _ [18, 19, 20, 21, 22, 17, 23, 1, 24, 25, 26, 27, 28, 29, 30, 31, 32, 33, 34, 35, 36, 37, 38, 39, 40, 41, 42, 43, 44, 45, 46, 47, 48, 49, 50, 51, 52, 53, 54, 55, 56, 57, 58, 59, 60, 61, 62, 63, 64, 65, 66, 67, 68, 69, 70, 71, 72, 73, 74] rfl (by decide +kernel)
set_option maxRecDepth 20000 in
theorem gX10_typeAt_X10_wordAt : GoodIn wsX10_typeAt (va_wsS RX10 78 yX10_wordAt wsX10_wordAt) := goodIn_app (goodIn_of _ (by decide +kernel)) ggX10_typeAt_X10_wordAt
theorem dX10_typeAt_0 : decode cX10_typeAt 0 = .ok (.aload_n 0, 1) := by decide +kernel
theorem dX10_typeAt_1 : decode cX10_typeAt 1 = .ok (.getfield 68, 3) := by decide +kernel
theorem dX10_typeAt_4 : decode cX10_typeAt 4 = .ok (.iload_n 1, 1) := by decide +kernel
theorem dX10_typeAt_5 : decode cX10_typeAt 5 = .ok (.baload, 1) := by decide +kernel
theorem dX10_typeAt_6 : decode cX10_typeAt 6 = .ok (.bipush 59, 2) := by decide +kernel
theorem dX10_typeAt_8 : decode cX10_typeAt 8 = .ok (.if_icmp .ne 7, 3) := by decide +kernel
theorem dX10_typeAt_11 : decode cX10_typeAt 11 = .ok (.getstatic 72, 3) := by decide +kernel
theorem dX10_typeAt_14 : decode cX10_typeAt 14 = .ok (.areturn, 1) := by decide +kernel
theorem dX10_typeAt_15 : decode cX10_typeAt 15 = .ok (.iconst 0, 1) := by decide +kernel
theorem dX10_typeAt_16 : decode cX10_typeAt 16 = .ok (.istore_n 3, 1) := by decide +kernel
theorem dX10_typeAt_17 : decode cX10_typeAt 17 = .ok (.iconst 0, 1) := by decide +kernel
theorem dX10_typeAt_18 : decode cX10_typeAt 18 = .ok (.istore 4, 2) := by decide +kernel
theorem dX10_typeAt_20 : decode cX10_typeAt 20 = .ok (.iload_n 1, 1) := by decide +kernel
theorem dX10_typeAt_21 : decode cX10_typeAt 21 = .ok (.istore 5, 2) := by decide +kernel
theorem dX10_typeAt_23 : decode cX10_typeAt 23 = .ok (.iload 5, 2) := by decide +kernel
theorem dX10_typeAt_25 : decode cX10_typeAt 25 = .ok (.iload_n 1, 1) := by decide +kernel
theorem dX10_typeAt_26 : decode cX10_typeAt 26 = .ok (.iload_n 2, 1) := by decide +kernel
theorem dX10_typeAt_27 : decode cX10_typeAt 27 = .ok (.iadd, 1) := by decide +kernel
theorem dX10_typeAt_28 : decode cX10_typeAt 28 = .ok (.if_icmp .ge 45, 3) := by decide +kernel
theorem dX10_typeAt_31 : decode cX10_typeAt 31 = .ok (.iload_n 3, 1) := by decide +kernel
theorem dX10_typeAt_32 : decode cX10_typeAt 32 = .ok (.aload_n 0, 1) := by decide +kernel
theorem dX10_typeAt_33 : decode cX10_typeAt 33 = .ok (.iload 5, 2) := by decide +kernel
theorem dX10_typeAt_35 : decode cX10_typeAt 35 = .ok (.invokevirtual 62, 3) := by decide +kernel
theorem dX10_typeAt_38 : decode cX10_typeAt 38 = .ok (.ifCond .eq 7, 3) := by decide +kernel
theorem dX10_typeAt_41 : decode cX10_typeAt 41 = .ok (.iconst 1, 1) := by decide +kernel
theorem dX10_typeAt_42 : decode cX10_typeAt 42 = .ok (.goto 4, 3) := by decide +kernel
theorem dX10_typeAt_45 : decode cX10_typeAt 45 = .ok (.iconst 0, 1) := by decide +kernel
theorem dX10_typeAt_46 : decode cX10_typeAt 46 = .ok (.iadd, 1) := by decide +kernel
theorem dX10_typeAt_47 : decode cX10_typeAt 47 = .ok (.istore_n 3, 1) := by decide +kernel
theorem dX10_typeAt_48 : decode cX10_typeAt 48 = .ok (.iload 4, 2) := by decide +kernel
theorem dX10_typeAt_50 : decode cX10_typeAt 50 = .ok (.aload_n 0, 1) := by decide +kernel
theorem dX10_typeAt_51 : decode cX10_typeAt 51 = .ok (.iload 5, 2) := by decide +kernel
theorem dX10_typeAt_53 : decode cX10_typeAt 53 = .ok (.invokevirtual 59, 3) := by decide +kernel
theorem dX10_typeAt_56 : decode cX10_typeAt 56 = .ok (.ifCond .eq 7, 3) := by decide +kernel
theorem dX10_typeAt_59 : decode cX10_typeAt 59 = .ok (.iconst 1, 1) := by decide +kernel
theorem dX10_typeAt_60 : decode cX10_typeAt 60 = .ok (.goto 4, 3) := by decide +kernel
theorem dX10_typeAt_63 : decode cX10_typeAt 63 = .ok (.iconst 0, 1) := by decide +kernel
theorem dX10_typeAt_64 : decode cX10_typeAt 64 = .ok (.iadd, 1) := by decide +kernel
theorem dX10_typeAt_65 : decode cX10_typeAt 65 = .ok (.istore 4, 2) := by decide +kernel
theorem dX10_typeAt_67 : decode cX10_typeAt 67 = .ok (.iinc 5 1, 3) := by decide +kernel
theorem dX10_typeAt_70 : decode cX10_typeAt 70 = .ok (.goto (-47), 3) := by decide +kernel
theorem dX10_typeAt_73 : decode cX10_typeAt 73 = .ok (.iload_n 3, 1) := by decide +kernel
theorem dX10_typeAt_74 : decode cX10_typeAt 74 = .ok (.iload_n 2, 1) := by decide +kernel
theorem dX10_typeAt_75 : decode cX10_typeAt 75 = .ok (.if_icmp .ne 12, 3) := by decide +kernel
theorem dX10_typeAt_78 : decode cX10_typeAt 78 = .ok (.iload_n 2, 1) := by decide +kernel
theorem dX10_typeAt_79 : decode cX10_typeAt 79 = .ok (.iconst 4, 1) := by decide +kernel
theorem dX10_typeAt_80 : decode cX10_typeAt 80 = .ok (.if_icmp .gt 7, 3) := by decide +kernel
theorem dX10_typeAt_83 : decode cX10_typeAt 83 = .ok (.getstatic 75, 3) := by decide +kernel
theorem dX10_typeAt_86 : decode cX10_typeAt 86 = .ok (.areturn, 1) := by decide +kernel
theorem dX10_typeAt_87 : decode cX10_typeAt 87 = .ok (.iload 4, 2) := by decide +kernel
theorem dX10_typeAt_89 : decode cX10_typeAt 89 = .ok (.iload_n 2, 1) := by decide +kernel
theorem dX10_typeAt_90 : decode cX10_typeAt 90 = .ok (.if_icmp .ne 16, 3) := by decide +kernel
theorem dX10_typeAt_93 : decode cX10_typeAt 93 = .ok (.iload_n 2, 1) := by decide +kernel
theorem dX10_typeAt_94 : decode cX10_typeAt 94 = .ok (.bipush 8, 2) := by decide +kernel
theorem dX10_typeAt_96 : decode cX10_typeAt 96 = .ok (.if_icmp .gt 10, 3) := by decide +kernel
theorem dX10_typeAt_99 : decode cX10_typeAt 99 = .ok (.aload_n 0, 1) := by decide +kernel
theorem dX10_typeAt_100 : decode cX10_typeAt 100 = .ok (.iload_n 1, 1) := by decide +kernel
theorem dX10_typeAt_101 : decode cX10_typeAt 101 = .ok (.iload_n 2, 1) := by decide +kernel
theorem dX10_typeAt_102 : decode cX10_typeAt 102 = .ok (.invokestatic 78, 3) := by decide +kernel
theorem dX10_typeAt_105 : decode cX10_typeAt 105 = .ok (.areturn, 1) := by decide +kernel
theorem dX10_typeAt_106 : decode cX10_typeAt 106 = .ok (.getstatic 81, 3) := by decide +kernel
theorem dX10_typeAt_109 : decode cX10_typeAt 109 = .ok (.areturn, 1) := by decide +kernel
set_option maxRecDepth 20000 in
theorem ggX10_wordAt_X10_isSpelled : GoodIn wsX10_wordAt wsX10_isSpelled := goodIn_r _ [6, 7, 8, 9, 10, 11, 12, 13, 14, 15, 16, 17, 18, 19, 20, 21, 22, 23, 24, 25, 26, 27, 28, 29, 30, 31, 32, 33, 34, 35, 36, 37, 38, 39, 40, 41, 42, 43, 44, 45, 46, 47, 48, 49, 50, 51, 52, 53, 54, 55, 56, 57, 58] rfl (by decide +kernel)
set_option maxRecDepth 20000 in
theorem gX10_wordAt_X10_isSpelled : GoodIn wsX10_wordAt (va_wsS RX10 91 yX10_isSpelled wsX10_isSpelled) := goodIn_app (goodIn_of _ (by decide +kernel)) ggX10_wordAt_X10_isSpelled
theorem dX10_wordAt_0 : decode cX10_wordAt 0 = .ok (.iconst 0, 1) := by decide +kernel
theorem dX10_wordAt_1 : decode cX10_wordAt 1 = .ok (.istore_n 3, 1) := by decide +kernel
theorem dX10_wordAt_2 : decode cX10_wordAt 2 = .ok (.iload_n 3, 1) := by decide +kernel
theorem dX10_wordAt_3 : decode cX10_wordAt 3 = .ok (.getstatic 84, 3) := by decide +kernel
theorem dX10_wordAt_6 : decode cX10_wordAt 6 = .ok (.arraylength, 1) := by decide +kernel
theorem dX10_wordAt_7 : decode cX10_wordAt 7 = .ok (.if_icmp .ge 32, 3) := by decide +kernel
theorem dX10_wordAt_10 : decode cX10_wordAt 10 = .ok (.getstatic 84, 3) := by decide +kernel
theorem dX10_wordAt_13 : decode cX10_wordAt 13 = .ok (.iload_n 3, 1) := by decide +kernel
theorem dX10_wordAt_14 : decode cX10_wordAt 14 = .ok (.aaload, 1) := by decide +kernel
theorem dX10_wordAt_15 : decode cX10_wordAt 15 = .ok (.getfield 87, 3) := by decide +kernel
theorem dX10_wordAt_18 : decode cX10_wordAt 18 = .ok (.aload_n 0, 1) := by decide +kernel
theorem dX10_wordAt_19 : decode cX10_wordAt 19 = .ok (.iload_n 1, 1) := by decide +kernel
theorem dX10_wordAt_20 : decode cX10_wordAt 20 = .ok (.iload_n 2, 1) := by decide +kernel
theorem dX10_wordAt_21 : decode cX10_wordAt 21 = .ok (.invokestatic 91, 3) := by decide +kernel
theorem dX10_wordAt_24 : decode cX10_wordAt 24 = .ok (.ifCond .eq 9, 3) := by decide +kernel
theorem dX10_wordAt_27 : decode cX10_wordAt 27 = .ok (.getstatic 84, 3) := by decide +kernel
theorem dX10_wordAt_30 : decode cX10_wordAt 30 = .ok (.iload_n 3, 1) := by decide +kernel
theorem dX10_wordAt_31 : decode cX10_wordAt 31 = .ok (.aaload, 1) := by decide +kernel
theorem dX10_wordAt_32 : decode cX10_wordAt 32 = .ok (.areturn, 1) := by decide +kernel
theorem dX10_wordAt_33 : decode cX10_wordAt 33 = .ok (.iinc 3 1, 3) := by decide +kernel
theorem dX10_wordAt_36 : decode cX10_wordAt 36 = .ok (.goto (-34), 3) := by decide +kernel
theorem dX10_wordAt_39 : decode cX10_wordAt 39 = .ok (.getstatic 95, 3) := by decide +kernel
theorem dX10_wordAt_42 : decode cX10_wordAt 42 = .ok (.areturn, 1) := by decide +kernel
set_option maxRecDepth 20000 in
theorem ggX10_isSpelled_J0_length_8abf5 : GoodIn wsX10_isSpelled wsJ0_length_8abf5 := goodIn_r _ [6, 7, 8, 9, 10, 5, 11, 12, 13] rfl (by decide +kernel)
set_option maxRecDepth 20000 in
theorem gX10_isSpelled_J0_length_8abf5 : GoodIn wsX10_isSpelled (wsV RX10 98 RJ0 yJ0_length_8abf5 wsJ0_length_8abf5) := goodIn_app (goodIn_of _ (by decide +kernel)) ggX10_isSpelled_J0_length_8abf5
set_option maxRecDepth 20000 in
theorem ggX10_isSpelled_J0_charAt_5068e : GoodIn wsX10_isSpelled wsJ0_charAt_5068e := goodIn_r _ [17, 7, 18, 19, 20, 5, 21, 12, 13, 22, 23, 24, 25, 26, 27, 28, 29, 30, 31, 32, 33, 34, 35, 36, 37, 38, 39, 40, 41, 42, 43, 44, 45, 46, 47, 48, 49, 50] rfl (by decide +kernel)
set_option maxRecDepth 20000 in
theorem gX10_isSpelled_J0_charAt_5068e : GoodIn wsX10_isSpelled (wsV RX10 103 RJ0 yJ0_charAt_5068e wsJ0_charAt_5068e) := goodIn_app (goodIn_of _ (by decide +kernel)) ggX10_isSpelled_J0_charAt_5068e
theorem dX10_isSpelled_0 : decode cX10_isSpelled 0 = .ok (.aload_n 0, 1) := by decide +kernel
theorem dX10_isSpelled_1 : decode cX10_isSpelled 1 = .ok (.invokevirtual 98, 3) := by decide +kernel
theorem dX10_isSpelled_4 : decode cX10_isSpelled 4 = .ok (.iload_n 3, 1) := by decide +kernel
theorem dX10_isSpelled_5 : decode cX10_isSpelled 5 = .ok (.if_icmp .eq 5, 3) := by decide +kernel
theorem dX10_isSpelled_8 : decode cX10_isSpelled 8 = .ok (.iconst 0, 1) := by decide +kernel
theorem dX10_isSpelled_9 : decode cX10_isSpelled 9 = .ok (.ireturn, 1) := by decide +kernel
theorem dX10_isSpelled_10 : decode cX10_isSpelled 10 = .ok (.iconst 0, 1) := by decide +kernel
theorem dX10_isSpelled_11 : decode cX10_isSpelled 11 = .ok (.istore 4, 2) := by decide +kernel
theorem dX10_isSpelled_13 : decode cX10_isSpelled 13 = .ok (.iload 4, 2) := by decide +kernel
theorem dX10_isSpelled_15 : decode cX10_isSpelled 15 = .ok (.iload_n 3, 1) := by decide +kernel
theorem dX10_isSpelled_16 : decode cX10_isSpelled 16 = .ok (.if_icmp .ge 29, 3) := by decide +kernel
theorem dX10_isSpelled_19 : decode cX10_isSpelled 19 = .ok (.aload_n 0, 1) := by decide +kernel
theorem dX10_isSpelled_20 : decode cX10_isSpelled 20 = .ok (.iload 4, 2) := by decide +kernel
theorem dX10_isSpelled_22 : decode cX10_isSpelled 22 = .ok (.invokevirtual 103, 3) := by decide +kernel
theorem dX10_isSpelled_25 : decode cX10_isSpelled 25 = .ok (.aload_n 1, 1) := by decide +kernel
theorem dX10_isSpelled_26 : decode cX10_isSpelled 26 = .ok (.getfield 68, 3) := by decide +kernel
theorem dX10_isSpelled_29 : decode cX10_isSpelled 29 = .ok (.iload_n 2, 1) := by decide +kernel
theorem dX10_isSpelled_30 : decode cX10_isSpelled 30 = .ok (.iload 4, 2) := by decide +kernel
theorem dX10_isSpelled_32 : decode cX10_isSpelled 32 = .ok (.iadd, 1) := by decide +kernel
theorem dX10_isSpelled_33 : decode cX10_isSpelled 33 = .ok (.baload, 1) := by decide +kernel
theorem dX10_isSpelled_34 : decode cX10_isSpelled 34 = .ok (.if_icmp .eq 5, 3) := by decide +kernel
theorem dX10_isSpelled_37 : decode cX10_isSpelled 37 = .ok (.iconst 0, 1) := by decide +kernel
theorem dX10_isSpelled_38 : decode cX10_isSpelled 38 = .ok (.ireturn, 1) := by decide +kernel
theorem dX10_isSpelled_39 : decode cX10_isSpelled 39 = .ok (.iinc 4 1, 3) := by decide +kernel
theorem dX10_isSpelled_42 : decode cX10_isSpelled 42 = .ok (.goto (-29), 3) := by decide +kernel
theorem dX10_isSpelled_45 : decode cX10_isSpelled 45 = .ok (.iconst 1, 1) := by decide +kernel
theorem dX10_isSpelled_46 : decode cX10_isSpelled 46 = .ok (.ireturn, 1) := by decide +kernel
set_option maxRecDepth 20000 in
theorem ggX11_init_X7_init : GoodIn wsX11_init wsX7_init := goodIn_r _ [27, 28, 2, 3, 29, 30, 31, 123, 124] rfl (by decide +kernel)
set_option maxRecDepth 20000 in
theorem gX11_init_X7_init_n9 : GoodIn wsX11_init (wsX7_init) := ggX11_init_X7_init
set_option maxRecDepth 20000 in
theorem ggX11_init_X3_init : GoodIn wsX11_init wsX3_init := goodIn_r _ [33, 34, 2, 3, 29, 35, 36, 37, 38, 39, 132, 133, 134, 135] rfl (by decide +kernel)
set_option maxRecDepth 20000 in
theorem gX11_init_X3_init_n18 : GoodIn wsX11_init (wsX3_init) := ggX11_init_X3_init
set_option maxRecDepth 20000 in
theorem ggX11_init_X8_init : GoodIn wsX11_init wsX8_init := goodIn_r _ [42, 43, 2, 3, 44, 45, 46, 47, 48, 49, 50, 51, 52, 53, 54, 55, 56, 57, 58, 136, 137, 157, 158, 159, 160, 161, 162] rfl (by decide +kernel)
set_option maxRecDepth 20000 in
theorem gX11_init_X8_init : GoodIn wsX11_init (wsX8_init) := ggX11_init_X8_init
set_option maxRecDepth 20000 in
theorem ggX11_init_X5_init : GoodIn wsX11_init wsX5_init := goodIn_r _ [61, 62, 2, 3, 63, 64, 65, 66, 67, 68, 69, 70, 71, 72, 73, 74, 75, 76, 77, 36, 78, 79, 80, 81, 163, 164, 165, 166, 138, 139, 140, 141, 142, 143] rfl (by decide +kernel)
set_option maxRecDepth 20000 in
theorem gX11_init_X5_init : GoodIn wsX11_init (wsX5_init) := ggX11_init_X5_init
set_option maxRecDepth 20000 in
theorem ggX11_init_X1_init : GoodIn wsX11_init wsX1_init := goodIn_r _ [84, 85, 2, 3, 86, 87, 88, 89, 90, 91, 92, 93, 94, 95, 36, 96, 97, 98, 99, 100, 101, 102, 103, 104, 105, 106, 107, 108, 109, 110, 111, 112, 113, 114, 115, 116, 117, 118, 119, 120, 121, 122, 167, 168, 169, 144, 145, 146, 147, 148, 149, 150, 151, 152, 153, 154, 155, 156, 170, 171, 172, 173, 174] rfl (by decide +kernel)
set_option maxRecDepth 20000 in
theorem gX11_init_X1_init : GoodIn wsX11_init (wsX1_init) := ggX11_init_X1_init
theorem dX11_init_0 : decode cX11_init 0 = .ok (.aload_n 0, 1) := by decide +kernel
theorem dX11_init_1 : decode cX11_init 1 = .ok (.invokespecial 1, 3) := by decide +kernel
theorem dX11_init_4 : decode cX11_init 4 = .ok (.aload_n 0, 1) := by decide +kernel
theorem dX11_init_5 : decode cX11_init 5 = .ok (.new 7, 3) := by decide +kernel
theorem dX11_init_8 : decode cX11_init 8 = .ok (.dup, 1) := by decide +kernel
theorem dX11_init_9 : decode cX11_init 9 = .ok (.invokespecial 9, 3) := by decide +kernel
theorem dX11_init_12 : decode cX11_init 12 = .ok (.putfield 10, 3) := by decide +kernel
theorem dX11_init_15 : decode cX11_init 15 = .ok (.aload_n 0, 1) := by decide +kernel
theorem dX11_init_16 : decode cX11_init 16 = .ok (.new 16, 3) := by decide +kernel
theorem dX11_init_19 : decode cX11_init 19 = .ok (.dup, 1) := by decide +kernel
theorem dX11_init_20 : decode cX11_init 20 = .ok (.invokespecial 18, 3) := by decide +kernel
theorem dX11_init_23 : decode cX11_init 23 = .ok (.putfield 19, 3) := by decide +kernel
theorem dX11_init_26 : decode cX11_init 26 = .ok (.aload_n 0, 1) := by decide +kernel
theorem dX11_init_27 : decode cX11_init 27 = .ok (.bipush 6, 2) := by decide +kernel
theorem dX11_init_29 : decode cX11_init 29 = .ok (.anewarray 23, 3) := by decide +kernel
theorem dX11_init_32 : decode cX11_init 32 = .ok (.putfield 25, 3) := by decide +kernel
theorem dX11_init_35 : decode cX11_init 35 = .ok (.iconst 0, 1) := by decide +kernel
theorem dX11_init_36 : decode cX11_init 36 = .ok (.istore_n 1, 1) := by decide +kernel
theorem dX11_init_37 : decode cX11_init 37 = .ok (.iload_n 1, 1) := by decide +kernel
theorem dX11_init_38 : decode cX11_init 38 = .ok (.bipush 6, 2) := by decide +kernel
theorem dX11_init_40 : decode cX11_init 40 = .ok (.if_icmp .ge 22, 3) := by decide +kernel
theorem dX11_init_43 : decode cX11_init 43 = .ok (.aload_n 0, 1) := by decide +kernel
theorem dX11_init_44 : decode cX11_init 44 = .ok (.getfield 25, 3) := by decide +kernel
theorem dX11_init_47 : decode cX11_init 47 = .ok (.iload_n 1, 1) := by decide +kernel
theorem dX11_init_48 : decode cX11_init 48 = .ok (.new 23, 3) := by decide +kernel
theorem dX11_init_51 : decode cX11_init 51 = .ok (.dup, 1) := by decide +kernel
theorem dX11_init_52 : decode cX11_init 52 = .ok (.invokespecial 29, 3) := by decide +kernel
theorem dX11_init_55 : decode cX11_init 55 = .ok (.aastore, 1) := by decide +kernel
theorem dX11_init_56 : decode cX11_init 56 = .ok (.iinc 1 1, 3) := by decide +kernel
theorem dX11_init_59 : decode cX11_init 59 = .ok (.goto (-22), 3) := by decide +kernel
theorem dX11_init_62 : decode cX11_init 62 = .ok (.aload_n 0, 1) := by decide +kernel
theorem dX11_init_63 : decode cX11_init 63 = .ok (.new 23, 3) := by decide +kernel
theorem dX11_init_66 : decode cX11_init 66 = .ok (.dup, 1) := by decide +kernel
theorem dX11_init_67 : decode cX11_init 67 = .ok (.invokespecial 29, 3) := by decide +kernel
theorem dX11_init_70 : decode cX11_init 70 = .ok (.putfield 30, 3) := by decide +kernel
theorem dX11_init_73 : decode cX11_init 73 = .ok (.aload_n 0, 1) := by decide +kernel
theorem dX11_init_74 : decode cX11_init 74 = .ok (.new 34, 3) := by decide +kernel
theorem dX11_init_77 : decode cX11_init 77 = .ok (.dup, 1) := by decide +kernel
theorem dX11_init_78 : decode cX11_init 78 = .ok (.aload_n 0, 1) := by decide +kernel
theorem dX11_init_79 : decode cX11_init 79 = .ok (.getfield 10, 3) := by decide +kernel
theorem dX11_init_82 : decode cX11_init 82 = .ok (.aload_n 0, 1) := by decide +kernel
theorem dX11_init_83 : decode cX11_init 83 = .ok (.getfield 19, 3) := by decide +kernel
theorem dX11_init_86 : decode cX11_init 86 = .ok (.invokespecial 36, 3) := by decide +kernel
theorem dX11_init_89 : decode cX11_init 89 = .ok (.putfield 39, 3) := by decide +kernel
theorem dX11_init_92 : decode cX11_init 92 = .ok (.aload_n 0, 1) := by decide +kernel
theorem dX11_init_93 : decode cX11_init 93 = .ok (.new 43, 3) := by decide +kernel
theorem dX11_init_96 : decode cX11_init 96 = .ok (.dup, 1) := by decide +kernel
theorem dX11_init_97 : decode cX11_init 97 = .ok (.aload_n 0, 1) := by decide +kernel
theorem dX11_init_98 : decode cX11_init 98 = .ok (.getfield 25, 3) := by decide +kernel
theorem dX11_init_101 : decode cX11_init 101 = .ok (.aload_n 0, 1) := by decide +kernel
theorem dX11_init_102 : decode cX11_init 102 = .ok (.getfield 19, 3) := by decide +kernel
theorem dX11_init_105 : decode cX11_init 105 = .ok (.invokespecial 45, 3) := by decide +kernel
theorem dX11_init_108 : decode cX11_init 108 = .ok (.putfield 48, 3) := by decide +kernel
theorem dX11_init_111 : decode cX11_init 111 = .ok (.aload_n 0, 1) := by decide +kernel
theorem dX11_init_112 : decode cX11_init 112 = .ok (.iconst (-1), 1) := by decide +kernel
theorem dX11_init_113 : decode cX11_init 113 = .ok (.putfield 52, 3) := by decide +kernel
theorem dX11_init_116 : decode cX11_init 116 = .ok (.return_, 1) := by decide +kernel
set_option maxRecDepth 20000 in
theorem ggX11_feed_X7_putNumber : GoodIn wsX11_feed wsX7_putNumber := goodIn_r _ [7, 8, 9, 17, 18] rfl (by decide +kernel)
set_option maxRecDepth 20000 in
theorem gX11_feed_X7_putNumber : GoodIn wsX11_feed (wsV RX11 59 RX7 yX7_putNumber wsX7_putNumber) := goodIn_app (goodIn_of _ (by decide +kernel)) ggX11_feed_X7_putNumber
theorem dX11_feed_0 : decode cX11_feed 0 = .ok (.aload_n 0, 1) := by decide +kernel
theorem dX11_feed_1 : decode cX11_feed 1 = .ok (.getfield 10, 3) := by decide +kernel
theorem dX11_feed_4 : decode cX11_feed 4 = .ok (.getfield 56, 3) := by decide +kernel
theorem dX11_feed_7 : decode cX11_feed 7 = .ok (.sipush 420, 3) := by decide +kernel
theorem dX11_feed_10 : decode cX11_feed 10 = .ok (.if_icmp .le 5, 3) := by decide +kernel
theorem dX11_feed_13 : decode cX11_feed 13 = .ok (.iconst (-1), 1) := by decide +kernel
theorem dX11_feed_14 : decode cX11_feed 14 = .ok (.ireturn, 1) := by decide +kernel
theorem dX11_feed_15 : decode cX11_feed 15 = .ok (.aload_n 0, 1) := by decide +kernel
theorem dX11_feed_16 : decode cX11_feed 16 = .ok (.getfield 10, 3) := by decide +kernel
theorem dX11_feed_19 : decode cX11_feed 19 = .ok (.iload_n 1, 1) := by decide +kernel
theorem dX11_feed_20 : decode cX11_feed 20 = .ok (.invokevirtual 59, 3) := by decide +kernel
theorem dX11_feed_23 : decode cX11_feed 23 = .ok (.aload_n 0, 1) := by decide +kernel
theorem dX11_feed_24 : decode cX11_feed 24 = .ok (.getfield 10, 3) := by decide +kernel
theorem dX11_feed_27 : decode cX11_feed 27 = .ok (.iload_n 2, 1) := by decide +kernel
theorem dX11_feed_28 : decode cX11_feed 28 = .ok (.invokevirtual 59, 3) := by decide +kernel
theorem dX11_feed_31 : decode cX11_feed 31 = .ok (.aload_n 0, 1) := by decide +kernel
theorem dX11_feed_32 : decode cX11_feed 32 = .ok (.getfield 10, 3) := by decide +kernel
theorem dX11_feed_35 : decode cX11_feed 35 = .ok (.iload_n 3, 1) := by decide +kernel
theorem dX11_feed_36 : decode cX11_feed 36 = .ok (.invokevirtual 59, 3) := by decide +kernel
theorem dX11_feed_39 : decode cX11_feed 39 = .ok (.aload_n 0, 1) := by decide +kernel
theorem dX11_feed_40 : decode cX11_feed 40 = .ok (.getfield 10, 3) := by decide +kernel
theorem dX11_feed_43 : decode cX11_feed 43 = .ok (.iload 4, 2) := by decide +kernel
theorem dX11_feed_45 : decode cX11_feed 45 = .ok (.invokevirtual 59, 3) := by decide +kernel
theorem dX11_feed_48 : decode cX11_feed 48 = .ok (.aload_n 0, 1) := by decide +kernel
theorem dX11_feed_49 : decode cX11_feed 49 = .ok (.getfield 10, 3) := by decide +kernel
theorem dX11_feed_52 : decode cX11_feed 52 = .ok (.iload 5, 2) := by decide +kernel
theorem dX11_feed_54 : decode cX11_feed 54 = .ok (.invokevirtual 59, 3) := by decide +kernel
theorem dX11_feed_57 : decode cX11_feed 57 = .ok (.aload_n 0, 1) := by decide +kernel
theorem dX11_feed_58 : decode cX11_feed 58 = .ok (.getfield 10, 3) := by decide +kernel
theorem dX11_feed_61 : decode cX11_feed 61 = .ok (.getfield 56, 3) := by decide +kernel
theorem dX11_feed_64 : decode cX11_feed 64 = .ok (.ireturn, 1) := by decide +kernel
theorem dX11_end_0 : decode cX11_end 0 = .ok (.iload_n 1, 1) := by decide +kernel
theorem dX11_end_1 : decode cX11_end 1 = .ok (.ifCond .lt 14, 3) := by decide +kernel
theorem dX11_end_4 : decode cX11_end 4 = .ok (.iload_n 1, 1) := by decide +kernel
theorem dX11_end_5 : decode cX11_end 5 = .ok (.aload_n 0, 1) := by decide +kernel
theorem dX11_end_6 : decode cX11_end 6 = .ok (.getfield 10, 3) := by decide +kernel
theorem dX11_end_9 : decode cX11_end 9 = .ok (.getfield 56, 3) := by decide +kernel
theorem dX11_end_12 : decode cX11_end 12 = .ok (.if_icmp .le 5, 3) := by decide +kernel
theorem dX11_end_15 : decode cX11_end 15 = .ok (.iconst 0, 1) := by decide +kernel
theorem dX11_end_16 : decode cX11_end 16 = .ok (.ireturn, 1) := by decide +kernel
theorem dX11_end_17 : decode cX11_end 17 = .ok (.aload_n 0, 1) := by decide +kernel
theorem dX11_end_18 : decode cX11_end 18 = .ok (.getfield 10, 3) := by decide +kernel
theorem dX11_end_21 : decode cX11_end 21 = .ok (.iload_n 1, 1) := by decide +kernel
theorem dX11_end_22 : decode cX11_end 22 = .ok (.putfield 56, 3) := by decide +kernel
theorem dX11_end_25 : decode cX11_end 25 = .ok (.iconst 1, 1) := by decide +kernel
theorem dX11_end_26 : decode cX11_end 26 = .ok (.ireturn, 1) := by decide +kernel
theorem dX11_tell_0 : decode cX11_tell 0 = .ok (.iload_n 1, 1) := by decide +kernel
theorem dX11_tell_1 : decode cX11_tell 1 = .ok (.invokestatic 63, 3) := by decide +kernel
theorem dX11_tell_4 : decode cX11_tell 4 = .ok (.ifCond .ne 13, 3) := by decide +kernel
theorem dX11_tell_7 : decode cX11_tell 7 = .ok (.new 67, 3) := by decide +kernel
theorem dX11_tell_10 : decode cX11_tell 10 = .ok (.dup, 1) := by decide +kernel
theorem dX11_tell_11 : decode cX11_tell 11 = .ok (.ldc 69, 2) := by decide +kernel
theorem dX11_tell_13 : decode cX11_tell 13 = .ok (.invokespecial 71, 3) := by decide +kernel
theorem dX11_tell_16 : decode cX11_tell 16 = .ok (.athrow, 1) := by decide +kernel
theorem dX11_tell_17 : decode cX11_tell 17 = .ok (.aload_n 0, 1) := by decide +kernel
theorem dX11_tell_18 : decode cX11_tell 18 = .ok (.getfield 39, 3) := by decide +kernel
theorem dX11_tell_21 : decode cX11_tell 21 = .ok (.aload_n 0, 1) := by decide +kernel
theorem dX11_tell_22 : decode cX11_tell 22 = .ok (.getfield 30, 3) := by decide +kernel
theorem dX11_tell_25 : decode cX11_tell 25 = .ok (.invokevirtual 74, 3) := by decide +kernel
theorem dX11_tell_28 : decode cX11_tell 28 = .ok (.istore_n 2, 1) := by decide +kernel
theorem dX11_tell_29 : decode cX11_tell 29 = .ok (.aload_n 0, 1) := by decide +kernel
theorem dX11_tell_30 : decode cX11_tell 30 = .ok (.getfield 10, 3) := by decide +kernel
theorem dX11_tell_33 : decode cX11_tell 33 = .ok (.iconst 0, 1) := by decide +kernel
theorem dX11_tell_34 : decode cX11_tell 34 = .ok (.putfield 56, 3) := by decide +kernel
theorem dX11_tell_37 : decode cX11_tell 37 = .ok (.iload_n 2, 1) := by decide +kernel
theorem dX11_tell_38 : decode cX11_tell 38 = .ok (.ifCond .ne 13, 3) := by decide +kernel
theorem dX11_tell_41 : decode cX11_tell 41 = .ok (.iconst (-1), 1) := by decide +kernel
theorem dX11_tell_42 : decode cX11_tell 42 = .ok (.aload_n 0, 1) := by decide +kernel
theorem dX11_tell_43 : decode cX11_tell 43 = .ok (.getfield 39, 3) := by decide +kernel
theorem dX11_tell_46 : decode cX11_tell 46 = .ok (.getfield 78, 3) := by decide +kernel
theorem dX11_tell_49 : decode cX11_tell 49 = .ok (.isub, 1) := by decide +kernel
theorem dX11_tell_50 : decode cX11_tell 50 = .ok (.ireturn, 1) := by decide +kernel
theorem dX11_tell_51 : decode cX11_tell 51 = .ok (.aload_n 0, 1) := by decide +kernel
theorem dX11_tell_52 : decode cX11_tell 52 = .ok (.getfield 25, 3) := by decide +kernel
theorem dX11_tell_55 : decode cX11_tell 55 = .ok (.iload_n 1, 1) := by decide +kernel
theorem dX11_tell_56 : decode cX11_tell 56 = .ok (.aaload, 1) := by decide +kernel
theorem dX11_tell_57 : decode cX11_tell 57 = .ok (.astore_n 3, 1) := by decide +kernel
theorem dX11_tell_58 : decode cX11_tell 58 = .ok (.aload_n 0, 1) := by decide +kernel
theorem dX11_tell_59 : decode cX11_tell 59 = .ok (.getfield 25, 3) := by decide +kernel
theorem dX11_tell_62 : decode cX11_tell 62 = .ok (.iload_n 1, 1) := by decide +kernel
theorem dX11_tell_63 : decode cX11_tell 63 = .ok (.aload_n 0, 1) := by decide +kernel
theorem dX11_tell_64 : decode cX11_tell 64 = .ok (.getfield 30, 3) := by decide +kernel
theorem dX11_tell_67 : decode cX11_tell 67 = .ok (.aastore, 1) := by decide +kernel
theorem dX11_tell_68 : decode cX11_tell 68 = .ok (.aload_n 0, 1) := by decide +kernel
theorem dX11_tell_69 : decode cX11_tell 69 = .ok (.aload_n 3, 1) := by decide +kernel
theorem dX11_tell_70 : decode cX11_tell 70 = .ok (.putfield 30, 3) := by decide +kernel
theorem dX11_tell_73 : decode cX11_tell 73 = .ok (.aload_n 0, 1) := by decide +kernel
theorem dX11_tell_74 : decode cX11_tell 74 = .ok (.getfield 48, 3) := by decide +kernel
theorem dX11_tell_77 : decode cX11_tell 77 = .ok (.invokevirtual 81, 3) := by decide +kernel
theorem dX11_tell_80 : decode cX11_tell 80 = .ok (.aload_n 0, 1) := by decide +kernel
theorem dX11_tell_81 : decode cX11_tell 81 = .ok (.getfield 25, 3) := by decide +kernel
theorem dX11_tell_84 : decode cX11_tell 84 = .ok (.iload_n 1, 1) := by decide +kernel
theorem dX11_tell_85 : decode cX11_tell 85 = .ok (.aaload, 1) := by decide +kernel
theorem dX11_tell_86 : decode cX11_tell 86 = .ok (.getfield 84, 3) := by decide +kernel
theorem dX11_tell_89 : decode cX11_tell 89 = .ok (.ireturn, 1) := by decide +kernel
theorem dX11_fault_0 : decode cX11_fault 0 = .ok (.aload_n 0, 1) := by decide +kernel
theorem dX11_fault_1 : decode cX11_fault 1 = .ok (.getfield 39, 3) := by decide +kernel
theorem dX11_fault_4 : decode cX11_fault 4 = .ok (.getfield 87, 3) := by decide +kernel
theorem dX11_fault_7 : decode cX11_fault 7 = .ok (.ireturn, 1) := by decide +kernel
set_option maxRecDepth 20000 in
theorem ggX11_hear_X1_forget : GoodIn wsX11_hear wsX1_forget := goodIn_r _ [7, 8, 9, 10, 18, 19, 20, 21, 22, 23, 24, 25, 26, 27, 28, 29, 30] rfl (by decide +kernel)
set_option maxRecDepth 20000 in
theorem gX11_hear_X1_forget : GoodIn wsX11_hear (wsV RX11 81 RX1 yX1_forget wsX1_forget) := goodIn_app (goodIn_of _ (by decide +kernel)) ggX11_hear_X1_forget
theorem dX11_hear_0 : decode cX11_hear 0 = .ok (.iload_n 1, 1) := by decide +kernel
theorem dX11_hear_1 : decode cX11_hear 1 = .ok (.ifCond .lt 9, 3) := by decide +kernel
theorem dX11_hear_4 : decode cX11_hear 4 = .ok (.iload_n 1, 1) := by decide +kernel
theorem dX11_hear_5 : decode cX11_hear 5 = .ok (.bipush 63, 2) := by decide +kernel
theorem dX11_hear_7 : decode cX11_hear 7 = .ok (.if_icmp .le 5, 3) := by decide +kernel
theorem dX11_hear_10 : decode cX11_hear 10 = .ok (.iconst 0, 1) := by decide +kernel
theorem dX11_hear_11 : decode cX11_hear 11 = .ok (.ireturn, 1) := by decide +kernel
theorem dX11_hear_12 : decode cX11_hear 12 = .ok (.aload_n 0, 1) := by decide +kernel
theorem dX11_hear_13 : decode cX11_hear 13 = .ok (.getfield 48, 3) := by decide +kernel
theorem dX11_hear_16 : decode cX11_hear 16 = .ok (.iload_n 1, 1) := by decide +kernel
theorem dX11_hear_17 : decode cX11_hear 17 = .ok (.putfield 90, 3) := by decide +kernel
theorem dX11_hear_20 : decode cX11_hear 20 = .ok (.aload_n 0, 1) := by decide +kernel
theorem dX11_hear_21 : decode cX11_hear 21 = .ok (.getfield 48, 3) := by decide +kernel
theorem dX11_hear_24 : decode cX11_hear 24 = .ok (.invokevirtual 81, 3) := by decide +kernel
theorem dX11_hear_27 : decode cX11_hear 27 = .ok (.iconst 1, 1) := by decide +kernel
theorem dX11_hear_28 : decode cX11_hear 28 = .ok (.ireturn, 1) := by decide +kernel
theorem dX11_saying_0 : decode cX11_saying 0 = .ok (.iload_n 1, 1) := by decide +kernel
theorem dX11_saying_1 : decode cX11_saying 1 = .ok (.invokestatic 63, 3) := by decide +kernel
theorem dX11_saying_4 : decode cX11_saying 4 = .ok (.ifCond .ne 13, 3) := by decide +kernel
theorem dX11_saying_7 : decode cX11_saying 7 = .ok (.new 67, 3) := by decide +kernel
theorem dX11_saying_10 : decode cX11_saying 10 = .ok (.dup, 1) := by decide +kernel
theorem dX11_saying_11 : decode cX11_saying 11 = .ok (.ldc 69, 2) := by decide +kernel
theorem dX11_saying_13 : decode cX11_saying 13 = .ok (.invokespecial 71, 3) := by decide +kernel
theorem dX11_saying_16 : decode cX11_saying 16 = .ok (.athrow, 1) := by decide +kernel
theorem dX11_saying_17 : decode cX11_saying 17 = .ok (.aload_n 0, 1) := by decide +kernel
theorem dX11_saying_18 : decode cX11_saying 18 = .ok (.getfield 25, 3) := by decide +kernel
theorem dX11_saying_21 : decode cX11_saying 21 = .ok (.iload_n 1, 1) := by decide +kernel
theorem dX11_saying_22 : decode cX11_saying 22 = .ok (.aaload, 1) := by decide +kernel
theorem dX11_saying_23 : decode cX11_saying 23 = .ok (.iload_n 2, 1) := by decide +kernel
theorem dX11_saying_24 : decode cX11_saying 24 = .ok (.invokevirtual 93, 3) := by decide +kernel
theorem dX11_saying_27 : decode cX11_saying 27 = .ok (.ifCond .ne 13, 3) := by decide +kernel
theorem dX11_saying_30 : decode cX11_saying 30 = .ok (.new 96, 3) := by decide +kernel
theorem dX11_saying_33 : decode cX11_saying 33 = .ok (.dup, 1) := by decide +kernel
theorem dX11_saying_34 : decode cX11_saying 34 = .ok (.ldc 98, 2) := by decide +kernel
theorem dX11_saying_36 : decode cX11_saying 36 = .ok (.invokespecial 100, 3) := by decide +kernel
theorem dX11_saying_39 : decode cX11_saying 39 = .ok (.athrow, 1) := by decide +kernel
theorem dX11_saying_40 : decode cX11_saying 40 = .ok (.aload_n 0, 1) := by decide +kernel
theorem dX11_saying_41 : decode cX11_saying 41 = .ok (.getfield 25, 3) := by decide +kernel
theorem dX11_saying_44 : decode cX11_saying 44 = .ok (.iload_n 1, 1) := by decide +kernel
theorem dX11_saying_45 : decode cX11_saying 45 = .ok (.aaload, 1) := by decide +kernel
theorem dX11_saying_46 : decode cX11_saying 46 = .ok (.getfield 101, 3) := by decide +kernel
theorem dX11_saying_49 : decode cX11_saying 49 = .ok (.iload_n 2, 1) := by decide +kernel
theorem dX11_saying_50 : decode cX11_saying 50 = .ok (.aaload, 1) := by decide +kernel
theorem dX11_saying_51 : decode cX11_saying 51 = .ok (.astore 4, 2) := by decide +kernel
theorem dX11_saying_53 : decode cX11_saying 53 = .ok (.iload_n 3, 1) := by decide +kernel
theorem dX11_saying_54 : decode cX11_saying 54 = .ok (.tableswitch 77 0 5 #[38, 47, 53, 59, 65, 71], 38) := by decide +kernel
theorem dX11_saying_92 : decode cX11_saying 92 = .ok (.aload 4, 2) := by decide +kernel
theorem dX11_saying_94 : decode cX11_saying 94 = .ok (.getfield 105, 3) := by decide +kernel
theorem dX11_saying_97 : decode cX11_saying 97 = .ok (.getfield 111, 3) := by decide +kernel
theorem dX11_saying_100 : decode cX11_saying 100 = .ok (.ireturn, 1) := by decide +kernel
theorem dX11_saying_101 : decode cX11_saying 101 = .ok (.aload 4, 2) := by decide +kernel
theorem dX11_saying_103 : decode cX11_saying 103 = .ok (.getfield 116, 3) := by decide +kernel
theorem dX11_saying_106 : decode cX11_saying 106 = .ok (.ireturn, 1) := by decide +kernel
theorem dX11_saying_107 : decode cX11_saying 107 = .ok (.aload 4, 2) := by decide +kernel
theorem dX11_saying_109 : decode cX11_saying 109 = .ok (.getfield 119, 3) := by decide +kernel
theorem dX11_saying_112 : decode cX11_saying 112 = .ok (.ireturn, 1) := by decide +kernel
theorem dX11_saying_113 : decode cX11_saying 113 = .ok (.aload 4, 2) := by decide +kernel
theorem dX11_saying_115 : decode cX11_saying 115 = .ok (.getfield 122, 3) := by decide +kernel
theorem dX11_saying_118 : decode cX11_saying 118 = .ok (.ireturn, 1) := by decide +kernel
theorem dX11_saying_119 : decode cX11_saying 119 = .ok (.aload 4, 2) := by decide +kernel
theorem dX11_saying_121 : decode cX11_saying 121 = .ok (.getfield 125, 3) := by decide +kernel
theorem dX11_saying_124 : decode cX11_saying 124 = .ok (.ireturn, 1) := by decide +kernel
theorem dX11_saying_125 : decode cX11_saying 125 = .ok (.aload 4, 2) := by decide +kernel
theorem dX11_saying_127 : decode cX11_saying 127 = .ok (.getfield 128, 3) := by decide +kernel
theorem dX11_saying_130 : decode cX11_saying 130 = .ok (.ireturn, 1) := by decide +kernel
theorem dX11_saying_131 : decode cX11_saying 131 = .ok (.new 96, 3) := by decide +kernel
theorem dX11_saying_134 : decode cX11_saying 134 = .ok (.dup, 1) := by decide +kernel
theorem dX11_saying_135 : decode cX11_saying 135 = .ok (.ldc 131, 2) := by decide +kernel
theorem dX11_saying_137 : decode cX11_saying 137 = .ok (.invokespecial 100, 3) := by decide +kernel
theorem dX11_saying_140 : decode cX11_saying 140 = .ok (.athrow, 1) := by decide +kernel
set_option maxRecDepth 20000 in
theorem ggX11_happening_X7_firstSolid : GoodIn wsX11_happening wsX7_firstSolid := goodIn_r _ [8, 9, 10, 11, 12, 7, 13, 14, 39, 40] rfl (by decide +kernel)
set_option maxRecDepth 20000 in
theorem gX11_happening_X7_firstSolid : GoodIn wsX11_happening (wsV RX11 133 RX7 yX7_firstSolid wsX7_firstSolid) := goodIn_app (goodIn_of _ (by decide +kernel)) ggX11_happening_X7_firstSolid
set_option maxRecDepth 20000 in
theorem ggX11_happening_X7_afterSolid : GoodIn wsX11_happening wsX7_afterSolid := goodIn_r _ [18, 9, 10, 11, 12, 7, 13, 14, 39, 40] rfl (by decide +kernel)
set_option maxRecDepth 20000 in
theorem gX11_happening_X7_afterSolid : GoodIn wsX11_happening (wsV RX11 137 RX7 yX7_afterSolid wsX7_afterSolid) := goodIn_app (goodIn_of _ (by decide +kernel)) ggX11_happening_X7_afterSolid
set_option maxRecDepth 20000 in
theorem ggX11_happening_X3_find : GoodIn wsX11_happening wsX3_find := goodIn_r _ [23, 24, 25, 26, 27, 28, 22, 29, 30, 31, 41, 42, 43, 44, 39, 40] rfl (by decide +kernel)
set_option maxRecDepth 20000 in
theorem gX11_happening_X3_find : GoodIn wsX11_happening (wsV RX11 141 RX3 yX3_find wsX3_find) := goodIn_app (goodIn_of _ (by decide +kernel)) ggX11_happening_X3_find
theorem dX11_happening_0 : decode cX11_happening 0 = .ok (.aload_n 0, 1) := by decide +kernel
theorem dX11_happening_1 : decode cX11_happening 1 = .ok (.getfield 10, 3) := by decide +kernel
theorem dX11_happening_4 : decode cX11_happening 4 = .ok (.invokevirtual 133, 3) := by decide +kernel
theorem dX11_happening_7 : decode cX11_happening 7 = .ok (.istore_n 1, 1) := by decide +kernel
theorem dX11_happening_8 : decode cX11_happening 8 = .ok (.aload_n 0, 1) := by decide +kernel
theorem dX11_happening_9 : decode cX11_happening 9 = .ok (.getfield 19, 3) := by decide +kernel
theorem dX11_happening_12 : decode cX11_happening 12 = .ok (.aload_n 0, 1) := by decide +kernel
theorem dX11_happening_13 : decode cX11_happening 13 = .ok (.getfield 10, 3) := by decide +kernel
theorem dX11_happening_16 : decode cX11_happening 16 = .ok (.iload_n 1, 1) := by decide +kernel
theorem dX11_happening_17 : decode cX11_happening 17 = .ok (.aload_n 0, 1) := by decide +kernel
theorem dX11_happening_18 : decode cX11_happening 18 = .ok (.getfield 10, 3) := by decide +kernel
theorem dX11_happening_21 : decode cX11_happening 21 = .ok (.iload_n 1, 1) := by decide +kernel
theorem dX11_happening_22 : decode cX11_happening 22 = .ok (.invokevirtual 137, 3) := by decide +kernel
theorem dX11_happening_25 : decode cX11_happening 25 = .ok (.iload_n 1, 1) := by decide +kernel
theorem dX11_happening_26 : decode cX11_happening 26 = .ok (.isub, 1) := by decide +kernel
theorem dX11_happening_27 : decode cX11_happening 27 = .ok (.invokevirtual 141, 3) := by decide +kernel
theorem dX11_happening_30 : decode cX11_happening 30 = .ok (.istore_n 2, 1) := by decide +kernel
theorem dX11_happening_31 : decode cX11_happening 31 = .ok (.aload_n 0, 1) := by decide +kernel
theorem dX11_happening_32 : decode cX11_happening 32 = .ok (.getfield 10, 3) := by decide +kernel
theorem dX11_happening_35 : decode cX11_happening 35 = .ok (.iconst 0, 1) := by decide +kernel
theorem dX11_happening_36 : decode cX11_happening 36 = .ok (.putfield 56, 3) := by decide +kernel
theorem dX11_happening_39 : decode cX11_happening 39 = .ok (.iload_n 2, 1) := by decide +kernel
theorem dX11_happening_40 : decode cX11_happening 40 = .ok (.ireturn, 1) := by decide +kernel
set_option maxRecDepth 20000 in
theorem ggX11_name_X3_has : GoodIn wsX11_name wsX3_has := goodIn_r _ [8, 9, 17, 18, 19, 20] rfl (by decide +kernel)
set_option maxRecDepth 20000 in
theorem gX11_name_X3_has : GoodIn wsX11_name (wsV RX11 145 RX3 yX3_has wsX3_has) := goodIn_app (goodIn_of _ (by decide +kernel)) ggX11_name_X3_has
theorem dX11_name_0 : decode cX11_name 0 = .ok (.aload_n 0, 1) := by decide +kernel
theorem dX11_name_1 : decode cX11_name 1 = .ok (.getfield 19, 3) := by decide +kernel
theorem dX11_name_4 : decode cX11_name 4 = .ok (.iload_n 1, 1) := by decide +kernel
theorem dX11_name_5 : decode cX11_name 5 = .ok (.invokevirtual 145, 3) := by decide +kernel
theorem dX11_name_8 : decode cX11_name 8 = .ok (.ifCond .ne 5, 3) := by decide +kernel
theorem dX11_name_11 : decode cX11_name 11 = .ok (.iconst (-1), 1) := by decide +kernel
theorem dX11_name_12 : decode cX11_name 12 = .ok (.ireturn, 1) := by decide +kernel
theorem dX11_name_13 : decode cX11_name 13 = .ok (.aload_n 0, 1) := by decide +kernel
theorem dX11_name_14 : decode cX11_name 14 = .ok (.iload_n 1, 1) := by decide +kernel
theorem dX11_name_15 : decode cX11_name 15 = .ok (.putfield 52, 3) := by decide +kernel
theorem dX11_name_18 : decode cX11_name 18 = .ok (.aload_n 0, 1) := by decide +kernel
theorem dX11_name_19 : decode cX11_name 19 = .ok (.getfield 19, 3) := by decide +kernel
theorem dX11_name_22 : decode cX11_name 22 = .ok (.getfield 146, 3) := by decide +kernel
theorem dX11_name_25 : decode cX11_name 25 = .ok (.iload_n 1, 1) := by decide +kernel
theorem dX11_name_26 : decode cX11_name 26 = .ok (.iaload, 1) := by decide +kernel
theorem dX11_name_27 : decode cX11_name 27 = .ok (.ireturn, 1) := by decide +kernel
theorem dX11_octet_0 : decode cX11_octet 0 = .ok (.iload_n 1, 1) := by decide +kernel
theorem dX11_octet_1 : decode cX11_octet 1 = .ok (.ifCond .lt 11, 3) := by decide +kernel
theorem dX11_octet_4 : decode cX11_octet 4 = .ok (.iload_n 1, 1) := by decide +kernel
theorem dX11_octet_5 : decode cX11_octet 5 = .ok (.aload_n 0, 1) := by decide +kernel
theorem dX11_octet_6 : decode cX11_octet 6 = .ok (.invokevirtual 150, 3) := by decide +kernel
theorem dX11_octet_9 : decode cX11_octet 9 = .ok (.if_icmp .lt 13, 3) := by decide +kernel
theorem dX11_octet_12 : decode cX11_octet 12 = .ok (.new 96, 3) := by decide +kernel
theorem dX11_octet_15 : decode cX11_octet 15 = .ok (.dup, 1) := by decide +kernel
theorem dX11_octet_16 : decode cX11_octet 16 = .ok (.ldc 153, 2) := by decide +kernel
theorem dX11_octet_18 : decode cX11_octet 18 = .ok (.invokespecial 100, 3) := by decide +kernel
theorem dX11_octet_21 : decode cX11_octet 21 = .ok (.athrow, 1) := by decide +kernel
theorem dX11_octet_22 : decode cX11_octet 22 = .ok (.aload_n 0, 1) := by decide +kernel
theorem dX11_octet_23 : decode cX11_octet 23 = .ok (.getfield 19, 3) := by decide +kernel
theorem dX11_octet_26 : decode cX11_octet 26 = .ok (.aload_n 0, 1) := by decide +kernel
theorem dX11_octet_27 : decode cX11_octet 27 = .ok (.getfield 52, 3) := by decide +kernel
theorem dX11_octet_30 : decode cX11_octet 30 = .ok (.iload_n 1, 1) := by decide +kernel
theorem dX11_octet_31 : decode cX11_octet 31 = .ok (.invokevirtual 155, 3) := by decide +kernel
theorem dX11_octet_34 : decode cX11_octet 34 = .ok (.ireturn, 1) := by decide +kernel
set_option maxRecDepth 20000 in
theorem ggX11_agree_X1_hasWay : GoodIn wsX11_agree wsX1_hasWay := goodIn_r _ [6, 7, 8, 9, 10, 11, 12, 5, 13, 14, 15, 16, 17, 18, 19, 20, 21, 22, 23, 24, 25, 26, 27, 28, 29, 30, 31, 32, 33, 34, 35, 36, 37, 38, 39, 40, 41, 42, 43, 44, 45, 46, 47, 48, 49, 50, 51, 52, 53, 54, 55, 56, 57, 58, 59, 60, 61, 62, 63, 64, 65, 66, 67, 68, 69, 70, 71, 72, 73, 74, 75, 76, 77, 78, 79, 80, 81, 82, 83, 84, 85, 86, 87, 88, 89, 90, 91, 92, 93, 94, 102, 103, 104, 105, 106, 107, 108, 109, 110, 111, 112, 113, 114, 115, 116, 117, 118, 119, 120, 121, 122, 123, 124, 125, 126, 127, 128, 129, 130, 131, 132, 133, 134] rfl (by decide +kernel)
set_option maxRecDepth 20000 in
theorem gX11_agree_X1_hasWay : GoodIn wsX11_agree (wsV RX11 159 RX1 yX1_hasWay wsX1_hasWay) := goodIn_app (goodIn_of _ (by decide +kernel)) ggX11_agree_X1_hasWay
theorem dX11_agree_0 : decode cX11_agree 0 = .ok (.aload_n 0, 1) := by decide +kernel
theorem dX11_agree_1 : decode cX11_agree 1 = .ok (.getfield 48, 3) := by decide +kernel
theorem dX11_agree_4 : decode cX11_agree 4 = .ok (.invokevirtual 159, 3) := by decide +kernel
theorem dX11_agree_7 : decode cX11_agree 7 = .ok (.ifCond .eq 7, 3) := by decide +kernel
theorem dX11_agree_10 : decode cX11_agree 10 = .ok (.iconst 1, 1) := by decide +kernel
theorem dX11_agree_11 : decode cX11_agree 11 = .ok (.goto 4, 3) := by decide +kernel
theorem dX11_agree_14 : decode cX11_agree 14 = .ok (.iconst 0, 1) := by decide +kernel
theorem dX11_agree_15 : decode cX11_agree 15 = .ok (.ireturn, 1) := by decide +kernel
set_option maxRecDepth 20000 in
theorem ggX11_bound_X3_has : GoodIn wsX11_bound wsX3_has := goodIn_r _ [7, 8, 121, 122, 123, 124] rfl (by decide +kernel)
set_option maxRecDepth 20000 in
theorem gX11_bound_X3_has : GoodIn wsX11_bound (wsV RX11 145 RX3 yX3_has wsX3_has) := goodIn_app (goodIn_of _ (by decide +kernel)) ggX11_bound_X3_has
set_option maxRecDepth 20000 in
theorem ggX11_bound_X1_hasWay : GoodIn wsX11_bound wsX1_hasWay := goodIn_r _ [13, 14, 15, 16, 17, 18, 19, 12, 20, 21, 22, 23, 24, 25, 26, 27, 28, 29, 30, 31, 32, 33, 34, 35, 36, 37, 38, 39, 40, 41, 42, 43, 44, 45, 46, 47, 48, 49, 50, 51, 52, 53, 54, 55, 56, 57, 58, 59, 60, 61, 62, 63, 64, 65, 66, 67, 68, 69, 70, 71, 72, 73, 74, 75, 76, 77, 78, 79, 80, 81, 82, 83, 84, 85, 86, 87, 88, 89, 90, 91, 92, 93, 94, 95, 96, 97, 98, 99, 100, 101, 125, 126, 127, 128, 129, 130, 131, 132, 133, 134, 135, 136, 137, 121, 122, 123, 124, 138, 139, 140, 141, 142, 143, 144, 145, 146, 147, 148, 149, 150, 151, 152, 153] rfl (by decide +kernel)
set_option maxRecDepth 20000 in
theorem gX11_bound_X1_hasWay : GoodIn wsX11_bound (wsV RX11 159 RX1 yX1_hasWay wsX1_hasWay) := goodIn_app (goodIn_of _ (by decide +kernel)) ggX11_bound_X1_hasWay
set_option maxRecDepth 20000 in
theorem ggX11_bound_X4_firstOf : GoodIn wsX11_bound wsX4_firstOf := goodIn_r _ [47] rfl (by decide +kernel)
set_option maxRecDepth 20000 in
theorem gX11_bound_X4_firstOf : GoodIn wsX11_bound (va_wsS RX11 165 yX4_firstOf wsX4_firstOf) := goodIn_app (goodIn_of _ (by decide +kernel)) ggX11_bound_X4_firstOf
set_option maxRecDepth 20000 in
theorem ggX11_bound_X1_least : GoodIn wsX11_bound wsX1_least := goodIn_r _ [106, 15, 21, 107, 22, 23, 24, 12, 25, 26, 27, 28, 29, 30, 31, 32, 33, 34, 35, 36, 37, 38, 39, 40, 41, 42, 43, 44, 45, 46, 47, 48, 49, 50, 51, 52, 53, 54, 55, 56, 57, 58, 59, 60, 61, 62, 63, 64, 65, 66, 67, 68, 69, 70, 71, 72, 73, 74, 75, 76, 77, 78, 79, 80, 81, 82, 83, 84, 85, 86, 87, 88, 89, 90, 91, 92, 93, 94, 95, 96, 97, 98, 99, 100, 101, 125, 126, 127, 128, 129, 130, 131, 132, 133, 134, 135, 136, 137, 140, 141, 142, 121, 122, 123, 124, 138, 139, 143, 144, 145, 146, 147, 148, 149, 150, 151, 152, 153] rfl (by decide +kernel)
set_option maxRecDepth 20000 in
theorem gX11_bound_X1_least : GoodIn wsX11_bound (wsV RX11 168 RX1 yX1_least wsX1_least) := goodIn_app (goodIn_of _ (by decide +kernel)) ggX11_bound_X1_least
set_option maxRecDepth 20000 in
theorem ggX11_bound_X1_greatest : GoodIn wsX11_bound wsX1_greatest := goodIn_r _ [111, 112, 104, 105, 12, 106, 15, 21, 107, 22, 23, 24, 25, 26, 27, 28, 29, 30, 31, 32, 33, 34, 35, 36, 37, 38, 39, 40, 41, 42, 43, 44, 45, 46, 47, 48, 49, 50, 51, 52, 53, 54, 55, 56, 57, 58, 59, 60, 61, 62, 63, 64, 65, 66, 67, 68, 69, 70, 71, 72, 73, 74, 75, 76, 77, 78, 79, 80, 81, 82, 83, 84, 85, 86, 87, 88, 89, 90, 91, 92, 93, 94, 95, 96, 97, 98, 99, 100, 101, 125, 126, 127, 128, 129, 130, 131, 132, 133, 134, 135, 136, 137, 140, 141, 142, 121, 122, 123, 124, 138, 139, 143, 144, 145, 146, 147, 148, 149, 150, 151, 152, 153] rfl (by decide +kernel)
set_option maxRecDepth 20000 in
theorem gX11_bound_X1_greatest : GoodIn wsX11_bound (wsV RX11 171 RX1 yX1_greatest wsX1_greatest) := goodIn_app (goodIn_of _ (by decide +kernel)) ggX11_bound_X1_greatest
set_option maxRecDepth 20000 in
theorem ggX11_bound_X4_lastOf : GoodIn wsX11_bound wsX4_lastOf := goodIn_r _ [60] rfl (by decide +kernel)
set_option maxRecDepth 20000 in
theorem gX11_bound_X4_lastOf : GoodIn wsX11_bound (va_wsS RX11 174 yX4_lastOf wsX4_lastOf) := goodIn_app (goodIn_of _ (by decide +kernel)) ggX11_bound_X4_lastOf
theorem dX11_bound_0 : decode cX11_bound 0 = .ok (.aload_n 0, 1) := by decide +kernel
theorem dX11_bound_1 : decode cX11_bound 1 = .ok (.getfield 19, 3) := by decide +kernel
theorem dX11_bound_4 : decode cX11_bound 4 = .ok (.iload_n 1, 1) := by decide +kernel
theorem dX11_bound_5 : decode cX11_bound 5 = .ok (.invokevirtual 145, 3) := by decide +kernel
theorem dX11_bound_8 : decode cX11_bound 8 = .ok (.ifCond .eq 13, 3) := by decide +kernel
theorem dX11_bound_11 : decode cX11_bound 11 = .ok (.aload_n 0, 1) := by decide +kernel
theorem dX11_bound_12 : decode cX11_bound 12 = .ok (.getfield 48, 3) := by decide +kernel
theorem dX11_bound_15 : decode cX11_bound 15 = .ok (.invokevirtual 159, 3) := by decide +kernel
theorem dX11_bound_18 : decode cX11_bound 18 = .ok (.ifCond .ne 5, 3) := by decide +kernel
theorem dX11_bound_21 : decode cX11_bound 21 = .ok (.iconst (-1), 1) := by decide +kernel
theorem dX11_bound_22 : decode cX11_bound 22 = .ok (.ireturn, 1) := by decide +kernel
theorem dX11_bound_23 : decode cX11_bound 23 = .ok (.iload_n 2, 1) := by decide +kernel
theorem dX11_bound_24 : decode cX11_bound 24 = .ok (.tableswitch 84 0 3 #[32, 45, 58, 71], 32) := by decide +kernel
theorem dX11_bound_56 : decode cX11_bound 56 = .ok (.aload_n 0, 1) := by decide +kernel
theorem dX11_bound_57 : decode cX11_bound 57 = .ok (.getfield 48, 3) := by decide +kernel
theorem dX11_bound_60 : decode cX11_bound 60 = .ok (.iconst 0, 1) := by decide +kernel
theorem dX11_bound_61 : decode cX11_bound 61 = .ok (.iload_n 1, 1) := by decide +kernel
theorem dX11_bound_62 : decode cX11_bound 62 = .ok (.invokestatic 165, 3) := by decide +kernel
theorem dX11_bound_65 : decode cX11_bound 65 = .ok (.invokevirtual 168, 3) := by decide +kernel
theorem dX11_bound_68 : decode cX11_bound 68 = .ok (.ireturn, 1) := by decide +kernel
theorem dX11_bound_69 : decode cX11_bound 69 = .ok (.aload_n 0, 1) := by decide +kernel
theorem dX11_bound_70 : decode cX11_bound 70 = .ok (.getfield 48, 3) := by decide +kernel
theorem dX11_bound_73 : decode cX11_bound 73 = .ok (.iconst 0, 1) := by decide +kernel
theorem dX11_bound_74 : decode cX11_bound 74 = .ok (.iload_n 1, 1) := by decide +kernel
theorem dX11_bound_75 : decode cX11_bound 75 = .ok (.invokestatic 165, 3) := by decide +kernel
theorem dX11_bound_78 : decode cX11_bound 78 = .ok (.invokevirtual 171, 3) := by decide +kernel
theorem dX11_bound_81 : decode cX11_bound 81 = .ok (.ireturn, 1) := by decide +kernel
theorem dX11_bound_82 : decode cX11_bound 82 = .ok (.aload_n 0, 1) := by decide +kernel
theorem dX11_bound_83 : decode cX11_bound 83 = .ok (.getfield 48, 3) := by decide +kernel
theorem dX11_bound_86 : decode cX11_bound 86 = .ok (.iconst 0, 1) := by decide +kernel
theorem dX11_bound_87 : decode cX11_bound 87 = .ok (.iload_n 1, 1) := by decide +kernel
theorem dX11_bound_88 : decode cX11_bound 88 = .ok (.invokestatic 174, 3) := by decide +kernel
theorem dX11_bound_91 : decode cX11_bound 91 = .ok (.invokevirtual 168, 3) := by decide +kernel
theorem dX11_bound_94 : decode cX11_bound 94 = .ok (.ireturn, 1) := by decide +kernel
theorem dX11_bound_95 : decode cX11_bound 95 = .ok (.aload_n 0, 1) := by decide +kernel
theorem dX11_bound_96 : decode cX11_bound 96 = .ok (.getfield 48, 3) := by decide +kernel
theorem dX11_bound_99 : decode cX11_bound 99 = .ok (.iconst 0, 1) := by decide +kernel
theorem dX11_bound_100 : decode cX11_bound 100 = .ok (.iload_n 1, 1) := by decide +kernel
theorem dX11_bound_101 : decode cX11_bound 101 = .ok (.invokestatic 174, 3) := by decide +kernel
theorem dX11_bound_104 : decode cX11_bound 104 = .ok (.invokevirtual 171, 3) := by decide +kernel
theorem dX11_bound_107 : decode cX11_bound 107 = .ok (.ireturn, 1) := by decide +kernel
theorem dX11_bound_108 : decode cX11_bound 108 = .ok (.iconst (-1), 1) := by decide +kernel
theorem dX11_bound_109 : decode cX11_bound 109 = .ok (.ireturn, 1) := by decide +kernel
theorem dX11_between_0 : decode cX11_between 0 = .ok (.aload_n 0, 1) := by decide +kernel
theorem dX11_between_1 : decode cX11_between 1 = .ok (.getfield 19, 3) := by decide +kernel
theorem dX11_between_4 : decode cX11_between 4 = .ok (.iload_n 1, 1) := by decide +kernel
theorem dX11_between_5 : decode cX11_between 5 = .ok (.invokevirtual 145, 3) := by decide +kernel
theorem dX11_between_8 : decode cX11_between 8 = .ok (.ifCond .eq 14, 3) := by decide +kernel
theorem dX11_between_11 : decode cX11_between 11 = .ok (.aload_n 0, 1) := by decide +kernel
theorem dX11_between_12 : decode cX11_between 12 = .ok (.getfield 19, 3) := by decide +kernel
theorem dX11_between_15 : decode cX11_between 15 = .ok (.iload_n 2, 1) := by decide +kernel
theorem dX11_between_16 : decode cX11_between 16 = .ok (.invokevirtual 145, 3) := by decide +kernel
theorem dX11_between_19 : decode cX11_between 19 = .ok (.ifCond .ne 13, 3) := by decide +kernel
theorem dX11_between_22 : decode cX11_between 22 = .ok (.new 96, 3) := by decide +kernel
theorem dX11_between_25 : decode cX11_between 25 = .ok (.dup, 1) := by decide +kernel
theorem dX11_between_26 : decode cX11_between 26 = .ok (.ldc 177, 2) := by decide +kernel
theorem dX11_between_28 : decode cX11_between 28 = .ok (.invokespecial 100, 3) := by decide +kernel
theorem dX11_between_31 : decode cX11_between 31 = .ok (.athrow, 1) := by decide +kernel
theorem dX11_between_32 : decode cX11_between 32 = .ok (.aload_n 0, 1) := by decide +kernel
theorem dX11_between_33 : decode cX11_between 33 = .ok (.getfield 48, 3) := by decide +kernel
theorem dX11_between_36 : decode cX11_between 36 = .ok (.invokevirtual 159, 3) := by decide +kernel
theorem dX11_between_39 : decode cX11_between 39 = .ok (.ifCond .ne 13, 3) := by decide +kernel
theorem dX11_between_42 : decode cX11_between 42 = .ok (.new 96, 3) := by decide +kernel
theorem dX11_between_45 : decode cX11_between 45 = .ok (.dup, 1) := by decide +kernel
theorem dX11_between_46 : decode cX11_between 46 = .ok (.ldc 179, 2) := by decide +kernel
theorem dX11_between_48 : decode cX11_between 48 = .ok (.invokespecial 100, 3) := by decide +kernel
theorem dX11_between_51 : decode cX11_between 51 = .ok (.athrow, 1) := by decide +kernel
theorem dX11_between_52 : decode cX11_between 52 = .ok (.iload_n 3, 1) := by decide +kernel
theorem dX11_between_53 : decode cX11_between 53 = .ok (.ifCond .eq 19, 3) := by decide +kernel
theorem dX11_between_56 : decode cX11_between 56 = .ok (.aload_n 0, 1) := by decide +kernel
theorem dX11_between_57 : decode cX11_between 57 = .ok (.getfield 48, 3) := by decide +kernel
theorem dX11_between_60 : decode cX11_between 60 = .ok (.iload_n 1, 1) := by decide +kernel
theorem dX11_between_61 : decode cX11_between 61 = .ok (.invokestatic 174, 3) := by decide +kernel
theorem dX11_between_64 : decode cX11_between 64 = .ok (.iload_n 2, 1) := by decide +kernel
theorem dX11_between_65 : decode cX11_between 65 = .ok (.invokestatic 165, 3) := by decide +kernel
theorem dX11_between_68 : decode cX11_between 68 = .ok (.invokevirtual 171, 3) := by decide +kernel
theorem dX11_between_71 : decode cX11_between 71 = .ok (.ireturn, 1) := by decide +kernel
theorem dX11_between_72 : decode cX11_between 72 = .ok (.aload_n 0, 1) := by decide +kernel
theorem dX11_between_73 : decode cX11_between 73 = .ok (.getfield 48, 3) := by decide +kernel
theorem dX11_between_76 : decode cX11_between 76 = .ok (.iload_n 1, 1) := by decide +kernel
theorem dX11_between_77 : decode cX11_between 77 = .ok (.invokestatic 174, 3) := by decide +kernel
theorem dX11_between_80 : decode cX11_between 80 = .ok (.iload_n 2, 1) := by decide +kernel
theorem dX11_between_81 : decode cX11_between 81 = .ok (.invokestatic 165, 3) := by decide +kernel
theorem dX11_between_84 : decode cX11_between 84 = .ok (.invokevirtual 168, 3) := by decide +kernel
theorem dX11_between_87 : decode cX11_between 87 = .ok (.ireturn, 1) := by decide +kernel
set_option maxRecDepth 20000 in
theorem ggX11_order_X3_has : GoodIn wsX11_order wsX3_has := goodIn_r _ [7, 8, 121, 122, 123, 124] rfl (by decide +kernel)
set_option maxRecDepth 20000 in
theorem gX11_order_X3_has : GoodIn wsX11_order (wsV RX11 145 RX3 yX3_has wsX3_has) := goodIn_app (goodIn_of _ (by decide +kernel)) ggX11_order_X3_has
set_option maxRecDepth 20000 in
theorem ggX11_order_X1_hasWay : GoodIn wsX11_order wsX1_hasWay := goodIn_r _ [13, 14, 15, 16, 17, 18, 19, 12, 20, 21, 22, 23, 24, 25, 26, 27, 28, 29, 30, 31, 32, 33, 34, 35, 36, 37, 38, 39, 40, 41, 42, 43, 44, 45, 46, 47, 48, 49, 50, 51, 52, 53, 54, 55, 56, 57, 58, 59, 60, 61, 62, 63, 64, 65, 66, 67, 68, 69, 70, 71, 72, 73, 74, 75, 76, 77, 78, 79, 80, 81, 82, 83, 84, 85, 86, 87, 88, 89, 90, 91, 92, 93, 94, 95, 96, 97, 98, 99, 100, 101, 125, 126, 127, 128, 129, 130, 131, 132, 133, 134, 135, 136, 137, 121, 122, 123, 124, 138, 139, 140, 141, 142, 143, 144, 145, 146, 147, 148, 149, 150, 151, 152, 153] rfl (by decide +kernel)
set_option maxRecDepth 20000 in
theorem gX11_order_X1_hasWay : GoodIn wsX11_order (wsV RX11 159 RX1 yX1_hasWay wsX1_hasWay) := goodIn_app (goodIn_of _ (by decide +kernel)) ggX11_order_X1_hasWay
set_option maxRecDepth 20000 in
theorem ggX11_order_X4_lastOf : GoodIn wsX11_order wsX4_lastOf := goodIn_r _ [60] rfl (by decide +kernel)
set_option maxRecDepth 20000 in
theorem gX11_order_X4_lastOf : GoodIn wsX11_order (va_wsS RX11 174 yX4_lastOf wsX4_lastOf) := goodIn_app (goodIn_of _ (by decide +kernel)) ggX11_order_X4_lastOf
set_option maxRecDepth 20000 in
theorem ggX11_order_X4_firstOf : GoodIn wsX11_order wsX4_firstOf := goodIn_r _ [47] rfl (by decide +kernel)
set_option maxRecDepth 20000 in
theorem gX11_order_X4_firstOf : GoodIn wsX11_order (va_wsS RX11 165 yX4_firstOf wsX4_firstOf) := goodIn_app (goodIn_of _ (by decide +kernel)) ggX11_order_X4_firstOf
set_option maxRecDepth 20000 in
theorem ggX11_order_X1_least : GoodIn wsX11_order wsX1_least := goodIn_r _ [107, 15, 21, 108, 22, 23, 24, 12, 25, 26, 27, 28, 29, 30, 31, 32, 33, 34, 35, 36, 37, 38, 39, 40, 41, 42, 43, 44, 45, 46, 47, 48, 49, 50, 51, 52, 53, 54, 55, 56, 57, 58, 59, 60, 61, 62, 63, 64, 65, 66, 67, 68, 69, 70, 71, 72, 73, 74, 75, 76, 77, 78, 79, 80, 81, 82, 83, 84, 85, 86, 87, 88, 89, 90, 91, 92, 93, 94, 95, 96, 97, 98, 99, 100, 101, 125, 126, 127, 128, 129, 130, 131, 132, 133, 134, 135, 136, 137, 140, 141, 142, 121, 122, 123, 124, 138, 139, 143, 144, 145, 146, 147, 148, 149, 150, 151, 152, 153] rfl (by decide +kernel)
set_option maxRecDepth 20000 in
theorem gX11_order_X1_least : GoodIn wsX11_order (wsV RX11 168 RX1 yX1_least wsX1_least) := goodIn_app (goodIn_of _ (by decide +kernel)) ggX11_order_X1_least
set_option maxRecDepth 20000 in
theorem ggX11_order_X1_greatest : GoodIn wsX11_order wsX1_greatest := goodIn_r _ [112, 113, 105, 106, 12, 107, 15, 21, 108, 22, 23, 24, 25, 26, 27, 28, 29, 30, 31, 32, 33, 34, 35, 36, 37, 38, 39, 40, 41, 42, 43, 44, 45, 46, 47, 48, 49, 50, 51, 52, 53, 54, 55, 56, 57, 58, 59, 60, 61, 62, 63, 64, 65, 66, 67, 68, 69, 70, 71, 72, 73, 74, 75, 76, 77, 78, 79, 80, 81, 82, 83, 84, 85, 86, 87, 88, 89, 90, 91, 92, 93, 94, 95, 96, 97, 98, 99, 100, 101, 125, 126, 127, 128, 129, 130, 131, 132, 133, 134, 135, 136, 137, 140, 141, 142, 121, 122, 123, 124, 138, 139, 143, 144, 145, 146, 147, 148, 149, 150, 151, 152, 153] rfl (by decide +kernel)
set_option maxRecDepth 20000 in
theorem gX11_order_X1_greatest : GoodIn wsX11_order (wsV RX11 171 RX1 yX1_greatest wsX1_greatest) := goodIn_app (goodIn_of _ (by decide +kernel)) ggX11_order_X1_greatest
theorem dX11_order_0 : decode cX11_order 0 = .ok (.aload_n 0, 1) := by decide +kernel
theorem dX11_order_1 : decode cX11_order 1 = .ok (.getfield 19, 3) := by decide +kernel
theorem dX11_order_4 : decode cX11_order 4 = .ok (.iload_n 1, 1) := by decide +kernel
theorem dX11_order_5 : decode cX11_order 5 = .ok (.invokevirtual 145, 3) := by decide +kernel
theorem dX11_order_8 : decode cX11_order 8 = .ok (.ifCond .eq 24, 3) := by decide +kernel
theorem dX11_order_11 : decode cX11_order 11 = .ok (.aload_n 0, 1) := by decide +kernel
theorem dX11_order_12 : decode cX11_order 12 = .ok (.getfield 19, 3) := by decide +kernel
theorem dX11_order_15 : decode cX11_order 15 = .ok (.iload_n 2, 1) := by decide +kernel
theorem dX11_order_16 : decode cX11_order 16 = .ok (.invokevirtual 145, 3) := by decide +kernel
theorem dX11_order_19 : decode cX11_order 19 = .ok (.ifCond .eq 13, 3) := by decide +kernel
theorem dX11_order_22 : decode cX11_order 22 = .ok (.aload_n 0, 1) := by decide +kernel
theorem dX11_order_23 : decode cX11_order 23 = .ok (.getfield 48, 3) := by decide +kernel
theorem dX11_order_26 : decode cX11_order 26 = .ok (.invokevirtual 159, 3) := by decide +kernel
theorem dX11_order_29 : decode cX11_order 29 = .ok (.ifCond .ne 6, 3) := by decide +kernel
theorem dX11_order_32 : decode cX11_order 32 = .ok (.bipush (-2), 2) := by decide +kernel
theorem dX11_order_34 : decode cX11_order 34 = .ok (.ireturn, 1) := by decide +kernel
theorem dX11_order_35 : decode cX11_order 35 = .ok (.aload_n 0, 1) := by decide +kernel
theorem dX11_order_36 : decode cX11_order 36 = .ok (.getfield 48, 3) := by decide +kernel
theorem dX11_order_39 : decode cX11_order 39 = .ok (.iload_n 1, 1) := by decide +kernel
theorem dX11_order_40 : decode cX11_order 40 = .ok (.invokestatic 174, 3) := by decide +kernel
theorem dX11_order_43 : decode cX11_order 43 = .ok (.iload_n 2, 1) := by decide +kernel
theorem dX11_order_44 : decode cX11_order 44 = .ok (.invokestatic 165, 3) := by decide +kernel
theorem dX11_order_47 : decode cX11_order 47 = .ok (.invokevirtual 168, 3) := by decide +kernel
theorem dX11_order_50 : decode cX11_order 50 = .ok (.ifCond .le 5, 3) := by decide +kernel
theorem dX11_order_53 : decode cX11_order 53 = .ok (.iconst 1, 1) := by decide +kernel
theorem dX11_order_54 : decode cX11_order 54 = .ok (.ireturn, 1) := by decide +kernel
theorem dX11_order_55 : decode cX11_order 55 = .ok (.aload_n 0, 1) := by decide +kernel
theorem dX11_order_56 : decode cX11_order 56 = .ok (.getfield 48, 3) := by decide +kernel
theorem dX11_order_59 : decode cX11_order 59 = .ok (.iload_n 1, 1) := by decide +kernel
theorem dX11_order_60 : decode cX11_order 60 = .ok (.invokestatic 174, 3) := by decide +kernel
theorem dX11_order_63 : decode cX11_order 63 = .ok (.iload_n 2, 1) := by decide +kernel
theorem dX11_order_64 : decode cX11_order 64 = .ok (.invokestatic 165, 3) := by decide +kernel
theorem dX11_order_67 : decode cX11_order 67 = .ok (.invokevirtual 171, 3) := by decide +kernel
theorem dX11_order_70 : decode cX11_order 70 = .ok (.ifCond .gt 5, 3) := by decide +kernel
theorem dX11_order_73 : decode cX11_order 73 = .ok (.iconst (-1), 1) := by decide +kernel
theorem dX11_order_74 : decode cX11_order 74 = .ok (.ireturn, 1) := by decide +kernel
theorem dX11_order_75 : decode cX11_order 75 = .ok (.iconst 0, 1) := by decide +kernel
theorem dX11_order_76 : decode cX11_order 76 = .ok (.ireturn, 1) := by decide +kernel
set_option maxRecDepth 20000 in
theorem ggX11_quarrel_X1_hasWay : GoodIn wsX11_quarrel wsX1_hasWay := goodIn_r _ [7, 8, 9, 10, 11, 12, 13, 6, 14, 15, 16, 17, 18, 19, 20, 21, 22, 23, 24, 25, 26, 27, 28, 29, 30, 31, 32, 33, 34, 35, 36, 37, 38, 39, 40, 41, 42, 43, 44, 45, 46, 47, 48, 49, 50, 51, 52, 53, 54, 55, 56, 57, 58, 59, 60, 61, 62, 63, 64, 65, 66, 67, 68, 69, 70, 71, 72, 73, 74, 75, 76, 77, 78, 79, 80, 81, 82, 83, 84, 85, 86, 87, 88, 89, 90, 91, 92, 93, 94, 95, 114, 115, 116, 117, 118, 119, 120, 121, 122, 123, 124, 125, 126, 127, 128, 129, 130, 131, 132, 133, 134, 135, 136, 137, 138, 139, 140, 141, 142, 143, 144, 145, 146] rfl (by decide +kernel)
set_option maxRecDepth 20000 in
theorem gX11_quarrel_X1_hasWay : GoodIn wsX11_quarrel (wsV RX11 159 RX1 yX1_hasWay wsX1_hasWay) := goodIn_app (goodIn_of _ (by decide +kernel)) ggX11_quarrel_X1_hasWay
set_option maxRecDepth 20000 in
theorem ggX11_quarrel_X1_findQuarrel : GoodIn wsX11_quarrel wsX1_findQuarrel := goodIn_r _ [99, 100, 101, 22, 23, 24, 9, 102, 103, 104, 105, 6, 106, 55, 56, 57, 11, 12, 13, 14, 15, 16, 17, 18, 19, 20, 21, 25, 26, 27, 28, 29, 30, 31, 32, 33, 34, 35, 36, 37, 38, 39, 40, 41, 42, 43, 44, 45, 46, 47, 48, 49, 50, 51, 52, 53, 54, 58, 59, 60, 61, 62, 63, 64, 65, 66, 67, 68, 69, 70, 71, 72, 73, 74, 75, 76, 77, 78, 79, 80, 81, 82, 83, 84, 85, 86, 87, 88, 89, 90, 91, 92, 93, 94, 95, 114, 115, 116, 117, 118, 119, 120, 121, 122, 123, 124, 125, 126, 131, 132, 127, 128, 129, 130, 133, 134, 135, 136, 137, 138, 139, 140, 141, 142, 143, 144, 145, 146] rfl (by decide +kernel)
set_option maxRecDepth 20000 in
theorem gX11_quarrel_X1_findQuarrel : GoodIn wsX11_quarrel (wsV RX11 181 RX1 yX1_findQuarrel wsX1_findQuarrel) := goodIn_app (goodIn_of _ (by decide +kernel)) ggX11_quarrel_X1_findQuarrel
theorem dX11_quarrel_0 : decode cX11_quarrel 0 = .ok (.aload_n 0, 1) := by decide +kernel
theorem dX11_quarrel_1 : decode cX11_quarrel 1 = .ok (.getfield 48, 3) := by decide +kernel
theorem dX11_quarrel_4 : decode cX11_quarrel 4 = .ok (.invokevirtual 159, 3) := by decide +kernel
theorem dX11_quarrel_7 : decode cX11_quarrel 7 = .ok (.ifCond .eq 5, 3) := by decide +kernel
theorem dX11_quarrel_10 : decode cX11_quarrel 10 = .ok (.iconst 0, 1) := by decide +kernel
theorem dX11_quarrel_11 : decode cX11_quarrel 11 = .ok (.ireturn, 1) := by decide +kernel
theorem dX11_quarrel_12 : decode cX11_quarrel 12 = .ok (.aload_n 0, 1) := by decide +kernel
theorem dX11_quarrel_13 : decode cX11_quarrel 13 = .ok (.getfield 48, 3) := by decide +kernel
theorem dX11_quarrel_16 : decode cX11_quarrel 16 = .ok (.invokevirtual 181, 3) := by decide +kernel
theorem dX11_quarrel_19 : decode cX11_quarrel 19 = .ok (.aload_n 0, 1) := by decide +kernel
theorem dX11_quarrel_20 : decode cX11_quarrel 20 = .ok (.getfield 48, 3) := by decide +kernel
theorem dX11_quarrel_23 : decode cX11_quarrel 23 = .ok (.getfield 184, 3) := by decide +kernel
theorem dX11_quarrel_26 : decode cX11_quarrel 26 = .ok (.ireturn, 1) := by decide +kernel
set_option maxRecDepth 20000 in
theorem ggX11_quarrelled_X1_hasWay : GoodIn wsX11_quarrelled wsX1_hasWay := goodIn_r _ [8, 9, 10, 11, 12, 13, 14, 7, 15, 16, 17, 18, 19, 20, 21, 22, 23, 24, 25, 26, 27, 28, 29, 30, 31, 32, 33, 34, 35, 36, 37, 38, 39, 40, 41, 42, 43, 44, 45, 46, 47, 48, 49, 50, 51, 52, 53, 54, 55, 56, 57, 58, 59, 60, 61, 62, 63, 64, 65, 66, 67, 68, 69, 70, 71, 72, 73, 74, 75, 76, 77, 78, 79, 80, 81, 82, 83, 84, 85, 86, 87, 88, 89, 90, 91, 92, 93, 94, 95, 96, 115, 116, 117, 118, 119, 120, 121, 122, 123, 124, 125, 126, 127, 128, 129, 130, 131, 132, 133, 134, 135, 136, 137, 138, 139, 140, 141, 142, 143, 144, 145, 146, 147] rfl (by decide +kernel)
set_option maxRecDepth 20000 in
theorem gX11_quarrelled_X1_hasWay : GoodIn wsX11_quarrelled (wsV RX11 159 RX1 yX1_hasWay wsX1_hasWay) := goodIn_app (goodIn_of _ (by decide +kernel)) ggX11_quarrelled_X1_hasWay
set_option maxRecDepth 20000 in
theorem ggX11_quarrelled_X1_findQuarrel : GoodIn wsX11_quarrelled wsX1_findQuarrel := goodIn_r _ [100, 101, 102, 23, 24, 25, 10, 103, 104, 105, 106, 7, 107, 56, 57, 58, 12, 13, 14, 15, 16, 17, 18, 19, 20, 21, 22, 26, 27, 28, 29, 30, 31, 32, 33, 34, 35, 36, 37, 38, 39, 40, 41, 42, 43, 44, 45, 46, 47, 48, 49, 50, 51, 52, 53, 54, 55, 59, 60, 61, 62, 63, 64, 65, 66, 67, 68, 69, 70, 71, 72, 73, 74, 75, 76, 77, 78, 79, 80, 81, 82, 83, 84, 85, 86, 87, 88, 89, 90, 91, 92, 93, 94, 95, 96, 115, 116, 117, 118, 119, 120, 121, 122, 123, 124, 125, 126, 127, 132, 133, 128, 129, 130, 131, 134, 135, 136, 137, 138, 139, 140, 141, 142, 143, 144, 145, 146, 147] rfl (by decide +kernel)
set_option maxRecDepth 20000 in
theorem gX11_quarrelled_X1_findQuarrel : GoodIn wsX11_quarrelled (wsV RX11 181 RX1 yX1_findQuarrel wsX1_findQuarrel) := goodIn_app (goodIn_of _ (by decide +kernel)) ggX11_quarrelled_X1_findQuarrel
theorem dX11_quarrelled_0 : decode cX11_quarrelled 0 = .ok (.aload_n 0, 1) := by decide +kernel
theorem dX11_quarrelled_1 : decode cX11_quarrelled 1 = .ok (.getfield 48, 3) := by decide +kernel
theorem dX11_quarrelled_4 : decode cX11_quarrelled 4 = .ok (.invokevirtual 159, 3) := by decide +kernel
theorem dX11_quarrelled_7 : decode cX11_quarrelled 7 = .ok (.ifCond .eq 5, 3) := by decide +kernel
theorem dX11_quarrelled_10 : decode cX11_quarrelled 10 = .ok (.iconst (-1), 1) := by decide +kernel
theorem dX11_quarrelled_11 : decode cX11_quarrelled 11 = .ok (.ireturn, 1) := by decide +kernel
theorem dX11_quarrelled_12 : decode cX11_quarrelled 12 = .ok (.aload_n 0, 1) := by decide +kernel
theorem dX11_quarrelled_13 : decode cX11_quarrelled 13 = .ok (.getfield 48, 3) := by decide +kernel
theorem dX11_quarrelled_16 : decode cX11_quarrelled 16 = .ok (.invokevirtual 181, 3) := by decide +kernel
theorem dX11_quarrelled_19 : decode cX11_quarrelled 19 = .ok (.iload_n 1, 1) := by decide +kernel
theorem dX11_quarrelled_20 : decode cX11_quarrelled 20 = .ok (.ifCond .lt 26, 3) := by decide +kernel
theorem dX11_quarrelled_23 : decode cX11_quarrelled 23 = .ok (.iload_n 1, 1) := by decide +kernel
theorem dX11_quarrelled_24 : decode cX11_quarrelled 24 = .ok (.aload_n 0, 1) := by decide +kernel
theorem dX11_quarrelled_25 : decode cX11_quarrelled 25 = .ok (.getfield 48, 3) := by decide +kernel
theorem dX11_quarrelled_28 : decode cX11_quarrelled 28 = .ok (.getfield 184, 3) := by decide +kernel
theorem dX11_quarrelled_31 : decode cX11_quarrelled 31 = .ok (.if_icmp .ge 15, 3) := by decide +kernel
theorem dX11_quarrelled_34 : decode cX11_quarrelled 34 = .ok (.aload_n 0, 1) := by decide +kernel
theorem dX11_quarrelled_35 : decode cX11_quarrelled 35 = .ok (.getfield 48, 3) := by decide +kernel
theorem dX11_quarrelled_38 : decode cX11_quarrelled 38 = .ok (.getfield 187, 3) := by decide +kernel
theorem dX11_quarrelled_41 : decode cX11_quarrelled 41 = .ok (.iload_n 1, 1) := by decide +kernel
theorem dX11_quarrelled_42 : decode cX11_quarrelled 42 = .ok (.iaload, 1) := by decide +kernel
theorem dX11_quarrelled_43 : decode cX11_quarrelled 43 = .ok (.goto 4, 3) := by decide +kernel
theorem dX11_quarrelled_46 : decode cX11_quarrelled 46 = .ok (.iconst (-1), 1) := by decide +kernel
theorem dX11_quarrelled_47 : decode cX11_quarrelled 47 = .ok (.ireturn, 1) := by decide +kernel
set_option maxRecDepth 20000 in
theorem ggX11_leave_X1_fewestToLeave : GoodIn wsX11_leave wsX1_fewestToLeave := goodIn_r _ [6, 7, 8, 9, 10, 5, 11, 12, 13, 14, 15, 16, 17, 18, 19, 20, 21, 22, 23, 24, 25, 26, 27, 28, 29, 30, 31, 32, 33, 34, 35, 36, 37, 38, 39, 40, 41, 42, 43, 44, 45, 46, 47, 48, 49, 50, 51, 52, 53, 54, 55, 56, 57, 58, 59, 60, 61, 62, 63, 64, 65, 66, 67, 68, 69, 70, 71, 72, 73, 74, 75, 76, 77, 78, 79, 80, 81, 82, 83, 84, 85, 86, 87, 88, 89, 90, 91, 92, 93, 94, 95, 96, 97, 98, 99, 100, 101, 102, 103, 104, 105, 113, 114, 115, 116, 117, 118, 119, 120, 121, 122, 123, 124, 125, 126, 127, 128, 129, 130, 131, 132, 133, 134, 135, 136, 137, 138, 139, 140, 141, 142, 143, 144, 145] rfl (by decide +kernel)
set_option maxRecDepth 20000 in
theorem gX11_leave_X1_fewestToLeave : GoodIn wsX11_leave (wsV RX11 190 RX1 yX1_fewestToLeave wsX1_fewestToLeave) := goodIn_app (goodIn_of _ (by decide +kernel)) ggX11_leave_X1_fewestToLeave
theorem dX11_leave_0 : decode cX11_leave 0 = .ok (.aload_n 0, 1) := by decide +kernel
theorem dX11_leave_1 : decode cX11_leave 1 = .ok (.getfield 48, 3) := by decide +kernel
theorem dX11_leave_4 : decode cX11_leave 4 = .ok (.invokevirtual 190, 3) := by decide +kernel
theorem dX11_leave_7 : decode cX11_leave 7 = .ok (.ireturn, 1) := by decide +kernel
theorem dX11_needless_0 : decode cX11_needless 0 = .ok (.iload_n 1, 1) := by decide +kernel
theorem dX11_needless_1 : decode cX11_needless 1 = .ok (.invokestatic 63, 3) := by decide +kernel
theorem dX11_needless_4 : decode cX11_needless 4 = .ok (.ifCond .ne 13, 3) := by decide +kernel
theorem dX11_needless_7 : decode cX11_needless 7 = .ok (.new 67, 3) := by decide +kernel
theorem dX11_needless_10 : decode cX11_needless 10 = .ok (.dup, 1) := by decide +kernel
theorem dX11_needless_11 : decode cX11_needless 11 = .ok (.ldc 69, 2) := by decide +kernel
theorem dX11_needless_13 : decode cX11_needless 13 = .ok (.invokespecial 71, 3) := by decide +kernel
theorem dX11_needless_16 : decode cX11_needless 16 = .ok (.athrow, 1) := by decide +kernel
theorem dX11_needless_17 : decode cX11_needless 17 = .ok (.aload_n 0, 1) := by decide +kernel
theorem dX11_needless_18 : decode cX11_needless 18 = .ok (.getfield 25, 3) := by decide +kernel
theorem dX11_needless_21 : decode cX11_needless 21 = .ok (.iload_n 1, 1) := by decide +kernel
theorem dX11_needless_22 : decode cX11_needless 22 = .ok (.aaload, 1) := by decide +kernel
theorem dX11_needless_23 : decode cX11_needless 23 = .ok (.iload_n 2, 1) := by decide +kernel
theorem dX11_needless_24 : decode cX11_needless 24 = .ok (.invokevirtual 93, 3) := by decide +kernel
theorem dX11_needless_27 : decode cX11_needless 27 = .ok (.ifCond .eq 24, 3) := by decide +kernel
theorem dX11_needless_30 : decode cX11_needless 30 = .ok (.aload_n 0, 1) := by decide +kernel
theorem dX11_needless_31 : decode cX11_needless 31 = .ok (.getfield 48, 3) := by decide +kernel
theorem dX11_needless_34 : decode cX11_needless 34 = .ok (.iload_n 1, 1) := by decide +kernel
theorem dX11_needless_35 : decode cX11_needless 35 = .ok (.invokevirtual 193, 3) := by decide +kernel
theorem dX11_needless_38 : decode cX11_needless 38 = .ok (.ifCond .eq 13, 3) := by decide +kernel
theorem dX11_needless_41 : decode cX11_needless 41 = .ok (.aload_n 0, 1) := by decide +kernel
theorem dX11_needless_42 : decode cX11_needless 42 = .ok (.getfield 48, 3) := by decide +kernel
theorem dX11_needless_45 : decode cX11_needless 45 = .ok (.invokevirtual 159, 3) := by decide +kernel
theorem dX11_needless_48 : decode cX11_needless 48 = .ok (.ifCond .ne 5, 3) := by decide +kernel
theorem dX11_needless_51 : decode cX11_needless 51 = .ok (.iconst (-1), 1) := by decide +kernel
theorem dX11_needless_52 : decode cX11_needless 52 = .ok (.ireturn, 1) := by decide +kernel
theorem dX11_needless_53 : decode cX11_needless 53 = .ok (.aload_n 0, 1) := by decide +kernel
theorem dX11_needless_54 : decode cX11_needless 54 = .ok (.getfield 48, 3) := by decide +kernel
theorem dX11_needless_57 : decode cX11_needless 57 = .ok (.iload_n 1, 1) := by decide +kernel
theorem dX11_needless_58 : decode cX11_needless 58 = .ok (.iload_n 2, 1) := by decide +kernel
theorem dX11_needless_59 : decode cX11_needless 59 = .ok (.invokevirtual 196, 3) := by decide +kernel
theorem dX11_needless_62 : decode cX11_needless 62 = .ok (.ifCond .eq 7, 3) := by decide +kernel
theorem dX11_needless_65 : decode cX11_needless 65 = .ok (.iconst 1, 1) := by decide +kernel
theorem dX11_needless_66 : decode cX11_needless 66 = .ok (.goto 4, 3) := by decide +kernel
theorem dX11_needless_69 : decode cX11_needless 69 = .ok (.iconst 0, 1) := by decide +kernel
theorem dX11_needless_70 : decode cX11_needless 70 = .ok (.ireturn, 1) := by decide +kernel
set_option maxRecDepth 20000 in
theorem ggX11_at_X3_has : GoodIn wsX11_at wsX3_has := goodIn_r _ [8, 9, 140, 141, 142, 143] rfl (by decide +kernel)
set_option maxRecDepth 20000 in
theorem gX11_at_X3_has : GoodIn wsX11_at (wsV RX11 145 RX3 yX3_has wsX3_has) := goodIn_app (goodIn_of _ (by decide +kernel)) ggX11_at_X3_has
set_option maxRecDepth 20000 in
theorem ggX11_at_X1_hasWay : GoodIn wsX11_at wsX1_hasWay := goodIn_r _ [14, 15, 16, 17, 18, 19, 20, 13, 21, 22, 23, 24, 25, 26, 27, 28, 29, 30, 31, 32, 33, 34, 35, 36, 37, 38, 39, 40, 41, 42, 43, 44, 45, 46, 47, 48, 49, 50, 51, 52, 53, 54, 55, 56, 57, 58, 59, 60, 61, 62, 63, 64, 65, 66, 67, 68, 69, 70, 71, 72, 73, 74, 75, 76, 77, 78, 79, 80, 81, 82, 83, 84, 85, 86, 87, 88, 89, 90, 91, 92, 93, 94, 95, 96, 97, 98, 99, 100, 101, 102, 127, 128, 129, 130, 131, 132, 133, 134, 135, 136, 137, 138, 139, 140, 141, 142, 143, 144, 145, 146, 147, 148, 149, 150, 151, 152, 153, 154, 155, 156, 157, 158, 159] rfl (by decide +kernel)
set_option maxRecDepth 20000 in
theorem gX11_at_X1_hasWay : GoodIn wsX11_at (wsV RX11 159 RX1 yX1_hasWay wsX1_hasWay) := goodIn_app (goodIn_of _ (by decide +kernel)) ggX11_at_X1_hasWay
set_option maxRecDepth 20000 in
theorem ggX11_at_X1_findLine : GoodIn wsX11_at wsX1_findLine := goodIn_r _ [106, 107, 16, 27, 28, 108, 18, 19, 20, 13, 21, 22, 23, 24, 25, 26, 29, 30, 31, 32, 33, 34, 35, 36, 37, 38, 39, 40, 41, 42, 43, 44, 45, 46, 47, 48, 49, 50, 51, 52, 53, 54, 55, 56, 57, 58, 59, 60, 61, 62, 63, 64, 65, 66, 67, 68, 69, 70, 71, 72, 73, 74, 75, 76, 77, 78, 79, 80, 81, 82, 83, 84, 85, 86, 87, 88, 89, 90, 91, 92, 93, 94, 95, 96, 97, 98, 99, 100, 101, 102, 109, 110, 111, 112, 113, 114, 115, 116, 117, 118, 119, 127, 128, 129, 130, 131, 132, 133, 134, 135, 136, 137, 138, 139, 140, 141, 142, 143, 144, 145, 146, 147, 148, 149, 150, 151, 152, 153, 154, 155, 156, 157, 158, 159] rfl (by decide +kernel)
set_option maxRecDepth 20000 in
theorem gX11_at_X1_findLine : GoodIn wsX11_at (wsV RX11 200 RX1 yX1_findLine wsX1_findLine) := goodIn_app (goodIn_of _ (by decide +kernel)) ggX11_at_X1_findLine
theorem dX11_at_0 : decode cX11_at 0 = .ok (.aload_n 0, 1) := by decide +kernel
theorem dX11_at_1 : decode cX11_at 1 = .ok (.getfield 19, 3) := by decide +kernel
theorem dX11_at_4 : decode cX11_at 4 = .ok (.iload_n 1, 1) := by decide +kernel
theorem dX11_at_5 : decode cX11_at 5 = .ok (.invokevirtual 145, 3) := by decide +kernel
theorem dX11_at_8 : decode cX11_at 8 = .ok (.ifCond .eq 13, 3) := by decide +kernel
theorem dX11_at_11 : decode cX11_at 11 = .ok (.aload_n 0, 1) := by decide +kernel
theorem dX11_at_12 : decode cX11_at 12 = .ok (.getfield 48, 3) := by decide +kernel
theorem dX11_at_15 : decode cX11_at 15 = .ok (.invokevirtual 159, 3) := by decide +kernel
theorem dX11_at_18 : decode cX11_at 18 = .ok (.ifCond .ne 5, 3) := by decide +kernel
theorem dX11_at_21 : decode cX11_at 21 = .ok (.iconst (-1), 1) := by decide +kernel
theorem dX11_at_22 : decode cX11_at 22 = .ok (.ireturn, 1) := by decide +kernel
theorem dX11_at_23 : decode cX11_at 23 = .ok (.aload_n 0, 1) := by decide +kernel
theorem dX11_at_24 : decode cX11_at 24 = .ok (.getfield 48, 3) := by decide +kernel
theorem dX11_at_27 : decode cX11_at 27 = .ok (.invokevirtual 200, 3) := by decide +kernel
theorem dX11_at_30 : decode cX11_at 30 = .ok (.aload_n 0, 1) := by decide +kernel
theorem dX11_at_31 : decode cX11_at 31 = .ok (.getfield 48, 3) := by decide +kernel
theorem dX11_at_34 : decode cX11_at 34 = .ok (.getfield 203, 3) := by decide +kernel
theorem dX11_at_37 : decode cX11_at 37 = .ok (.iload_n 1, 1) := by decide +kernel
theorem dX11_at_38 : decode cX11_at 38 = .ok (.iaload, 1) := by decide +kernel
theorem dX11_at_39 : decode cX11_at 39 = .ok (.ireturn, 1) := by decide +kernel
theorem dX11_sayings_0 : decode cX11_sayings 0 = .ok (.iload_n 1, 1) := by decide +kernel
theorem dX11_sayings_1 : decode cX11_sayings 1 = .ok (.invokestatic 63, 3) := by decide +kernel
theorem dX11_sayings_4 : decode cX11_sayings 4 = .ok (.ifCond .ne 13, 3) := by decide +kernel
theorem dX11_sayings_7 : decode cX11_sayings 7 = .ok (.new 67, 3) := by decide +kernel
theorem dX11_sayings_10 : decode cX11_sayings 10 = .ok (.dup, 1) := by decide +kernel
theorem dX11_sayings_11 : decode cX11_sayings 11 = .ok (.ldc 69, 2) := by decide +kernel
theorem dX11_sayings_13 : decode cX11_sayings 13 = .ok (.invokespecial 71, 3) := by decide +kernel
theorem dX11_sayings_16 : decode cX11_sayings 16 = .ok (.athrow, 1) := by decide +kernel
theorem dX11_sayings_17 : decode cX11_sayings 17 = .ok (.aload_n 0, 1) := by decide +kernel
theorem dX11_sayings_18 : decode cX11_sayings 18 = .ok (.getfield 25, 3) := by decide +kernel
theorem dX11_sayings_21 : decode cX11_sayings 21 = .ok (.iload_n 1, 1) := by decide +kernel
theorem dX11_sayings_22 : decode cX11_sayings 22 = .ok (.aaload, 1) := by decide +kernel
theorem dX11_sayings_23 : decode cX11_sayings 23 = .ok (.getfield 84, 3) := by decide +kernel
theorem dX11_sayings_26 : decode cX11_sayings 26 = .ok (.ireturn, 1) := by decide +kernel
set_option maxRecDepth 20000 in
theorem ggX11_count_X11_sayingsOfAll : GoodIn wsX11_count wsX11_sayingsOfAll := goodIn_r _ [11, 12, 13, 26, 27, 28, 29, 30, 31, 32, 52, 53] rfl (by decide +kernel)
set_option maxRecDepth 20000 in
theorem gX11_count_X11_sayingsOfAll : GoodIn wsX11_count (wsV RX11 207 RX11 yX11_sayingsOfAll wsX11_sayingsOfAll) := goodIn_app (goodIn_of _ (by decide +kernel)) ggX11_count_X11_sayingsOfAll
set_option maxRecDepth 20000 in
theorem ggX11_count_X11_outLength : GoodIn wsX11_count wsX11_outLength := goodIn_r _ [17, 1, 18, 19, 20, 21, 22, 23, 24, 25, 26, 27, 28, 29, 30, 31, 32, 33, 34, 35, 36] rfl (by decide +kernel)
set_option maxRecDepth 20000 in
theorem gX11_count_X11_outLength : GoodIn wsX11_count (wsV RX11 150 RX11 yX11_outLength wsX11_outLength) := goodIn_app (goodIn_of _ (by decide +kernel)) ggX11_count_X11_outLength
theorem dX11_count_0 : decode cX11_count 0 = .ok (.iload_n 1, 1) := by decide +kernel
theorem dX11_count_1 : decode cX11_count 1 = .ok (.tableswitch 69 0 4 #[35, 43, 48, 56, 64], 35) := by decide +kernel
theorem dX11_count_36 : decode cX11_count 36 = .ok (.aload_n 0, 1) := by decide +kernel
theorem dX11_count_37 : decode cX11_count 37 = .ok (.getfield 19, 3) := by decide +kernel
theorem dX11_count_40 : decode cX11_count 40 = .ok (.getfield 206, 3) := by decide +kernel
theorem dX11_count_43 : decode cX11_count 43 = .ok (.ireturn, 1) := by decide +kernel
theorem dX11_count_44 : decode cX11_count 44 = .ok (.aload_n 0, 1) := by decide +kernel
theorem dX11_count_45 : decode cX11_count 45 = .ok (.invokevirtual 207, 3) := by decide +kernel
theorem dX11_count_48 : decode cX11_count 48 = .ok (.ireturn, 1) := by decide +kernel
theorem dX11_count_49 : decode cX11_count 49 = .ok (.aload_n 0, 1) := by decide +kernel
theorem dX11_count_50 : decode cX11_count 50 = .ok (.getfield 48, 3) := by decide +kernel
theorem dX11_count_53 : decode cX11_count 53 = .ok (.getfield 90, 3) := by decide +kernel
theorem dX11_count_56 : decode cX11_count 56 = .ok (.ireturn, 1) := by decide +kernel
theorem dX11_count_57 : decode cX11_count 57 = .ok (.aload_n 0, 1) := by decide +kernel
theorem dX11_count_58 : decode cX11_count 58 = .ok (.getfield 10, 3) := by decide +kernel
theorem dX11_count_61 : decode cX11_count 61 = .ok (.getfield 56, 3) := by decide +kernel
theorem dX11_count_64 : decode cX11_count 64 = .ok (.ireturn, 1) := by decide +kernel
theorem dX11_count_65 : decode cX11_count 65 = .ok (.aload_n 0, 1) := by decide +kernel
theorem dX11_count_66 : decode cX11_count 66 = .ok (.invokevirtual 150, 3) := by decide +kernel
theorem dX11_count_69 : decode cX11_count 69 = .ok (.ireturn, 1) := by decide +kernel
theorem dX11_count_70 : decode cX11_count 70 = .ok (.iconst (-1), 1) := by decide +kernel
theorem dX11_count_71 : decode cX11_count 71 = .ok (.ireturn, 1) := by decide +kernel
theorem dX11_isTeller_0 : decode cX11_isTeller 0 = .ok (.iload_n 0, 1) := by decide +kernel
theorem dX11_isTeller_1 : decode cX11_isTeller 1 = .ok (.ifCond .lt 13, 3) := by decide +kernel
theorem dX11_isTeller_4 : decode cX11_isTeller 4 = .ok (.iload_n 0, 1) := by decide +kernel
theorem dX11_isTeller_5 : decode cX11_isTeller 5 = .ok (.bipush 6, 2) := by decide +kernel
theorem dX11_isTeller_7 : decode cX11_isTeller 7 = .ok (.if_icmp .ge 7, 3) := by decide +kernel
theorem dX11_isTeller_10 : decode cX11_isTeller 10 = .ok (.iconst 1, 1) := by decide +kernel
theorem dX11_isTeller_11 : decode cX11_isTeller 11 = .ok (.goto 4, 3) := by decide +kernel
theorem dX11_isTeller_14 : decode cX11_isTeller 14 = .ok (.iconst 0, 1) := by decide +kernel
theorem dX11_isTeller_15 : decode cX11_isTeller 15 = .ok (.ireturn, 1) := by decide +kernel
theorem dX11_sayingsOfAll_0 : decode cX11_sayingsOfAll 0 = .ok (.iconst 0, 1) := by decide +kernel
theorem dX11_sayingsOfAll_1 : decode cX11_sayingsOfAll 1 = .ok (.istore_n 1, 1) := by decide +kernel
theorem dX11_sayingsOfAll_2 : decode cX11_sayingsOfAll 2 = .ok (.iconst 0, 1) := by decide +kernel
theorem dX11_sayingsOfAll_3 : decode cX11_sayingsOfAll 3 = .ok (.istore_n 2, 1) := by decide +kernel
theorem dX11_sayingsOfAll_4 : decode cX11_sayingsOfAll 4 = .ok (.iload_n 2, 1) := by decide +kernel
theorem dX11_sayingsOfAll_5 : decode cX11_sayingsOfAll 5 = .ok (.bipush 6, 2) := by decide +kernel
theorem dX11_sayingsOfAll_7 : decode cX11_sayingsOfAll 7 = .ok (.if_icmp .ge 21, 3) := by decide +kernel
theorem dX11_sayingsOfAll_10 : decode cX11_sayingsOfAll 10 = .ok (.iload_n 1, 1) := by decide +kernel
theorem dX11_sayingsOfAll_11 : decode cX11_sayingsOfAll 11 = .ok (.aload_n 0, 1) := by decide +kernel
theorem dX11_sayingsOfAll_12 : decode cX11_sayingsOfAll 12 = .ok (.getfield 25, 3) := by decide +kernel
theorem dX11_sayingsOfAll_15 : decode cX11_sayingsOfAll 15 = .ok (.iload_n 2, 1) := by decide +kernel
theorem dX11_sayingsOfAll_16 : decode cX11_sayingsOfAll 16 = .ok (.aaload, 1) := by decide +kernel
theorem dX11_sayingsOfAll_17 : decode cX11_sayingsOfAll 17 = .ok (.getfield 84, 3) := by decide +kernel
theorem dX11_sayingsOfAll_20 : decode cX11_sayingsOfAll 20 = .ok (.iadd, 1) := by decide +kernel
theorem dX11_sayingsOfAll_21 : decode cX11_sayingsOfAll 21 = .ok (.istore_n 1, 1) := by decide +kernel
theorem dX11_sayingsOfAll_22 : decode cX11_sayingsOfAll 22 = .ok (.iinc 2 1, 3) := by decide +kernel
theorem dX11_sayingsOfAll_25 : decode cX11_sayingsOfAll 25 = .ok (.goto (-21), 3) := by decide +kernel
theorem dX11_sayingsOfAll_28 : decode cX11_sayingsOfAll 28 = .ok (.iload_n 1, 1) := by decide +kernel
theorem dX11_sayingsOfAll_29 : decode cX11_sayingsOfAll 29 = .ok (.ireturn, 1) := by decide +kernel
set_option maxRecDepth 20000 in
theorem ggX11_outLength_X3_has : GoodIn wsX11_outLength wsX3_has := goodIn_r _ [8, 9, 17, 18, 19, 20] rfl (by decide +kernel)
set_option maxRecDepth 20000 in
theorem gX11_outLength_X3_has : GoodIn wsX11_outLength (wsV RX11 145 RX3 yX3_has wsX3_has) := goodIn_app (goodIn_of _ (by decide +kernel)) ggX11_outLength_X3_has
theorem dX11_outLength_0 : decode cX11_outLength 0 = .ok (.aload_n 0, 1) := by decide +kernel
theorem dX11_outLength_1 : decode cX11_outLength 1 = .ok (.getfield 19, 3) := by decide +kernel
theorem dX11_outLength_4 : decode cX11_outLength 4 = .ok (.aload_n 0, 1) := by decide +kernel
theorem dX11_outLength_5 : decode cX11_outLength 5 = .ok (.getfield 52, 3) := by decide +kernel
theorem dX11_outLength_8 : decode cX11_outLength 8 = .ok (.invokevirtual 145, 3) := by decide +kernel
theorem dX11_outLength_11 : decode cX11_outLength 11 = .ok (.ifCond .eq 18, 3) := by decide +kernel
theorem dX11_outLength_14 : decode cX11_outLength 14 = .ok (.aload_n 0, 1) := by decide +kernel
theorem dX11_outLength_15 : decode cX11_outLength 15 = .ok (.getfield 19, 3) := by decide +kernel
theorem dX11_outLength_18 : decode cX11_outLength 18 = .ok (.getfield 146, 3) := by decide +kernel
theorem dX11_outLength_21 : decode cX11_outLength 21 = .ok (.aload_n 0, 1) := by decide +kernel
theorem dX11_outLength_22 : decode cX11_outLength 22 = .ok (.getfield 52, 3) := by decide +kernel
theorem dX11_outLength_25 : decode cX11_outLength 25 = .ok (.iaload, 1) := by decide +kernel
theorem dX11_outLength_26 : decode cX11_outLength 26 = .ok (.goto 4, 3) := by decide +kernel
theorem dX11_outLength_29 : decode cX11_outLength 29 = .ok (.iconst 0, 1) := by decide +kernel
theorem dX11_outLength_30 : decode cX11_outLength 30 = .ok (.ireturn, 1) := by decide +kernel
