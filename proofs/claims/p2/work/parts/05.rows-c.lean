set_option maxRecDepth 20000 in
theorem ggX1_init_X0_init : GoodIn wsX1_init wsX0_init := goodIn_r _ [18, 19, 2, 3, 20, 21, 22, 33, 34] (by decide +kernel) (by decide +kernel)
set_option maxRecDepth 20000 in
theorem gX1_init_X0_init_n25 : GoodIn wsX1_init (wsX0_init) := ggX1_init_X0_init
theorem dX1_init_0 : decode cX1_init 0 = .ok (.aload_n 0, 1) := by decide +kernel
theorem dX1_init_1 : decode cX1_init 1 = .ok (.invokespecial 3, 3) := by decide +kernel
theorem dX1_init_4 : decode cX1_init 4 = .ok (.aload_n 0, 1) := by decide +kernel
theorem dX1_init_5 : decode cX1_init 5 = .ok (.aload_n 1, 1) := by decide +kernel
theorem dX1_init_6 : decode cX1_init 6 = .ok (.putfield 9, 3) := by decide +kernel
theorem dX1_init_9 : decode cX1_init 9 = .ok (.aload_n 0, 1) := by decide +kernel
theorem dX1_init_10 : decode cX1_init 10 = .ok (.aload_n 2, 1) := by decide +kernel
theorem dX1_init_11 : decode cX1_init 11 = .ok (.putfield 15, 3) := by decide +kernel
theorem dX1_init_14 : decode cX1_init 14 = .ok (.aload_n 0, 1) := by decide +kernel
theorem dX1_init_15 : decode cX1_init 15 = .ok (.aload_n 3, 1) := by decide +kernel
theorem dX1_init_16 : decode cX1_init 16 = .ok (.putfield 19, 3) := by decide +kernel
theorem dX1_init_19 : decode cX1_init 19 = .ok (.aload_n 0, 1) := by decide +kernel
theorem dX1_init_20 : decode cX1_init 20 = .ok (.new 23, 3) := by decide +kernel
theorem dX1_init_23 : decode cX1_init 23 = .ok (.dup, 1) := by decide +kernel
theorem dX1_init_24 : decode cX1_init 24 = .ok (.invokespecial 25, 3) := by decide +kernel
theorem dX1_init_27 : decode cX1_init 27 = .ok (.putfield 26, 3) := by decide +kernel
theorem dX1_init_30 : decode cX1_init 30 = .ok (.aload_n 0, 1) := by decide +kernel
theorem dX1_init_31 : decode cX1_init 31 = .ok (.iconst 0, 1) := by decide +kernel
theorem dX1_init_32 : decode cX1_init 32 = .ok (.putfield 30, 3) := by decide +kernel
theorem dX1_init_35 : decode cX1_init 35 = .ok (.aload_n 0, 1) := by decide +kernel
theorem dX1_init_36 : decode cX1_init 36 = .ok (.iconst 0, 1) := by decide +kernel
theorem dX1_init_37 : decode cX1_init 37 = .ok (.putfield 34, 3) := by decide +kernel
theorem dX1_init_40 : decode cX1_init 40 = .ok (.aload_n 0, 1) := by decide +kernel
theorem dX1_init_41 : decode cX1_init 41 = .ok (.iconst 0, 1) := by decide +kernel
theorem dX1_init_42 : decode cX1_init 42 = .ok (.putfield 38, 3) := by decide +kernel
theorem dX1_init_45 : decode cX1_init 45 = .ok (.aload_n 0, 1) := by decide +kernel
theorem dX1_init_46 : decode cX1_init 46 = .ok (.iconst 0, 1) := by decide +kernel
theorem dX1_init_47 : decode cX1_init 47 = .ok (.putfield 41, 3) := by decide +kernel
theorem dX1_init_50 : decode cX1_init 50 = .ok (.aload_n 0, 1) := by decide +kernel
theorem dX1_init_51 : decode cX1_init 51 = .ok (.iconst 0, 1) := by decide +kernel
theorem dX1_init_52 : decode cX1_init 52 = .ok (.putfield 44, 3) := by decide +kernel
theorem dX1_init_55 : decode cX1_init 55 = .ok (.aload_n 0, 1) := by decide +kernel
theorem dX1_init_56 : decode cX1_init 56 = .ok (.iconst 0, 1) := by decide +kernel
theorem dX1_init_57 : decode cX1_init 57 = .ok (.putfield 47, 3) := by decide +kernel
theorem dX1_init_60 : decode cX1_init 60 = .ok (.return_, 1) := by decide +kernel
set_option maxRecDepth 20000 in
theorem ggX1_begin_X0_clear : GoodIn wsX1_begin wsX0_clear := goodIn_r _ [7, 8, 19, 20] (by decide +kernel) (by decide +kernel)
set_option maxRecDepth 20000 in
theorem gX1_begin_X0_clear : GoodIn wsX1_begin (wsV RX1 50 RX0 yX0_clear wsX0_clear) := goodIn_app (goodIn_of _ (by decide +kernel)) ggX1_begin_X0_clear
theorem dX1_begin_0 : decode cX1_begin 0 = .ok (.aload_n 0, 1) := by decide +kernel
theorem dX1_begin_1 : decode cX1_begin 1 = .ok (.getfield 26, 3) := by decide +kernel
theorem dX1_begin_4 : decode cX1_begin 4 = .ok (.invokevirtual 50, 3) := by decide +kernel
theorem dX1_begin_7 : decode cX1_begin 7 = .ok (.aload_n 0, 1) := by decide +kernel
theorem dX1_begin_8 : decode cX1_begin 8 = .ok (.iconst 0, 1) := by decide +kernel
theorem dX1_begin_9 : decode cX1_begin 9 = .ok (.putfield 30, 3) := by decide +kernel
theorem dX1_begin_12 : decode cX1_begin 12 = .ok (.return_, 1) := by decide +kernel
theorem dX1_spoil_0 : decode cX1_spoil 0 = .ok (.aload_n 0, 1) := by decide +kernel
theorem dX1_spoil_1 : decode cX1_spoil 1 = .ok (.iconst 1, 1) := by decide +kernel
theorem dX1_spoil_2 : decode cX1_spoil 2 = .ok (.putfield 30, 3) := by decide +kernel
theorem dX1_spoil_5 : decode cX1_spoil 5 = .ok (.return_, 1) := by decide +kernel
set_option maxRecDepth 20000 in
theorem ggX1_gather_X0_add : GoodIn wsX1_gather wsX0_add := goodIn_r _ [8, 9, 10, 11, 12, 13, 14, 15, 16, 17, 18, 19, 20, 21, 22, 23, 24, 25, 26, 27, 28, 29, 30, 41, 42] (by decide +kernel) (by decide +kernel)
set_option maxRecDepth 20000 in
theorem gX1_gather_X0_add : GoodIn wsX1_gather (wsV RX1 56 RX0 yX0_add wsX0_add) := goodIn_app (goodIn_of _ (by decide +kernel)) ggX1_gather_X0_add
theorem dX1_gather_0 : decode cX1_gather 0 = .ok (.aload_n 0, 1) := by decide +kernel
theorem dX1_gather_1 : decode cX1_gather 1 = .ok (.getfield 26, 3) := by decide +kernel
theorem dX1_gather_4 : decode cX1_gather 4 = .ok (.getfield 53, 3) := by decide +kernel
theorem dX1_gather_7 : decode cX1_gather 7 = .ok (.sipush 8192, 3) := by decide +kernel
theorem dX1_gather_10 : decode cX1_gather 10 = .ok (.if_icmp .lt 8, 3) := by decide +kernel
theorem dX1_gather_13 : decode cX1_gather 13 = .ok (.aload_n 0, 1) := by decide +kernel
theorem dX1_gather_14 : decode cX1_gather 14 = .ok (.iconst 1, 1) := by decide +kernel
theorem dX1_gather_15 : decode cX1_gather 15 = .ok (.putfield 30, 3) := by decide +kernel
theorem dX1_gather_18 : decode cX1_gather 18 = .ok (.aload_n 0, 1) := by decide +kernel
theorem dX1_gather_19 : decode cX1_gather 19 = .ok (.getfield 30, 3) := by decide +kernel
theorem dX1_gather_22 : decode cX1_gather 22 = .ok (.ifCond .ne 11, 3) := by decide +kernel
theorem dX1_gather_25 : decode cX1_gather 25 = .ok (.aload_n 0, 1) := by decide +kernel
theorem dX1_gather_26 : decode cX1_gather 26 = .ok (.getfield 26, 3) := by decide +kernel
theorem dX1_gather_29 : decode cX1_gather 29 = .ok (.iload_n 1, 1) := by decide +kernel
theorem dX1_gather_30 : decode cX1_gather 30 = .ok (.invokevirtual 56, 3) := by decide +kernel
theorem dX1_gather_33 : decode cX1_gather 33 = .ok (.return_, 1) := by decide +kernel
set_option maxRecDepth 20000 in
theorem ggX1_perform_X1_take : GoodIn wsX1_perform wsX1_take := goodIn_r _ [9, 10, 1, 11, 12, 13, 14, 15, 16, 17, 249, 250, 251, 252, 253, 254, 255, 256, 257, 258, 259, 260] (by decide +kernel) (by decide +kernel)
set_option maxRecDepth 20000 in
theorem gX1_perform_X1_take : GoodIn wsX1_perform (wsV RX1 60 RX1 yX1_take wsX1_take) := goodIn_app (goodIn_of _ (by decide +kernel)) ggX1_perform_X1_take
set_option maxRecDepth 20000 in
theorem ggX1_perform_X3_eraseToSmall : GoodIn wsX1_perform wsX3_eraseToSmall := goodIn_r _ [22, 23, 24, 25, 26, 27, 28, 29, 30, 31, 21, 32, 33, 34, 35, 36, 37, 38, 39, 40, 41, 42, 261, 262, 263, 264, 265, 266, 267, 268] (by decide +kernel) (by decide +kernel)
set_option maxRecDepth 20000 in
theorem gX1_perform_X3_eraseToSmall : GoodIn wsX1_perform (wsV RX1 64 RX3 yX3_eraseToSmall wsX3_eraseToSmall) := goodIn_app (goodIn_of _ (by decide +kernel)) ggX1_perform_X3_eraseToSmall
set_option maxRecDepth 20000 in
theorem ggX1_perform_X1_write : GoodIn wsX1_perform wsX1_write := goodIn_r _ [46, 3, 47, 48, 49, 50, 1, 10, 51, 2, 52, 5, 6, 7, 8, 9, 11, 12, 13, 14, 15, 16, 17, 53, 54, 55, 21, 56, 35, 57, 58, 59, 60, 61, 62, 63, 64, 36, 65, 66, 67, 68, 37, 69, 70, 71, 72, 73, 74, 75, 76, 77, 78, 79, 80, 81, 82, 83, 84, 85, 86, 87, 88, 89, 90, 91, 92, 93, 94, 95, 96, 97, 98, 99, 100, 101, 102, 103, 104, 105, 106, 107, 108, 109, 110, 111, 112, 113, 114, 115, 116, 117, 118, 119, 120, 121, 122, 123, 124, 125, 126, 127, 128, 129, 130, 131, 132, 133, 134, 135, 136, 137, 138, 139, 140, 141, 142, 143, 144, 145, 146, 147, 148, 149, 150, 151, 152, 153, 154, 155, 156, 157, 158, 159, 160, 161, 4, 162, 163, 164, 165, 166, 167, 168, 169, 170, 171, 249, 250, 251, 252, 253, 254, 255, 256, 257, 258, 261, 262, 263, 264, 265, 266, 267, 268, 259, 260, 269, 270, 271, 272, 273, 274, 275] (by decide +kernel) (by decide +kernel)
set_option maxRecDepth 20000 in
theorem gX1_perform_X1_write : GoodIn wsX1_perform (wsV RX1 69 RX1 yX1_write wsX1_write) := goodIn_app (goodIn_of _ (by decide +kernel)) ggX1_perform_X1_write
set_option maxRecDepth 20000 in
theorem ggX1_perform_X3_eraseToAll : GoodIn wsX1_perform wsX3_eraseToAll := goodIn_r _ [175, 23, 28, 29, 30, 31, 21, 32, 33, 34, 35, 36, 37, 38, 39, 40, 41, 42, 261, 262, 263, 264, 265, 266, 267, 268] (by decide +kernel) (by decide +kernel)
set_option maxRecDepth 20000 in
theorem gX1_perform_X3_eraseToAll : GoodIn wsX1_perform (wsV RX1 73 RX3 yX3_eraseToAll wsX3_eraseToAll) := goodIn_app (goodIn_of _ (by decide +kernel)) ggX1_perform_X3_eraseToAll
set_option maxRecDepth 20000 in
theorem ggX1_perform_X3_eraseWhatIsNotProtected : GoodIn wsX1_perform wsX3_eraseWhatIsNotProtected := goodIn_r _ [179, 35, 38, 180, 141, 142, 21, 143, 144, 145, 146, 147, 37, 61, 62, 63, 64, 36, 148, 149, 150, 151, 119, 120, 121, 122, 65, 66, 67, 68, 135, 78, 79, 80, 181, 116, 117, 118, 57, 58, 59, 60, 182, 183, 184, 185, 261, 262, 263, 264, 265, 266, 267, 268] (by decide +kernel) (by decide +kernel)
set_option maxRecDepth 20000 in
theorem gX1_perform_X3_eraseWhatIsNotProtected : GoodIn wsX1_perform (wsV RX1 76 RX3 yX3_eraseWhatIsNotProtected wsX3_eraseWhatIsNotProtected) := goodIn_app (goodIn_of _ (by decide +kernel)) ggX1_perform_X3_eraseWhatIsNotProtected
set_option maxRecDepth 20000 in
theorem ggX1_perform_X1_freeKeyboard : GoodIn wsX1_perform wsX1_freeKeyboard := goodIn_r _ [159, 160, 161, 4, 162, 163, 164, 165, 166, 167, 168, 169, 170, 14, 171, 16, 249, 250, 251, 252, 253, 254, 255, 256, 257, 258, 269, 270, 271, 272, 273, 274, 275, 259, 260] (by decide +kernel) (by decide +kernel)
set_option maxRecDepth 20000 in
theorem gX1_perform_X1_freeKeyboard : GoodIn wsX1_perform (wsV RX1 79 RX1 yX1_freeKeyboard wsX1_freeKeyboard) := goodIn_app (goodIn_of _ (by decide +kernel)) ggX1_perform_X1_freeKeyboard
set_option maxRecDepth 20000 in
theorem ggX1_perform_X1_endsHere : GoodIn wsX1_perform wsX1_endsHere := goodIn_r _ [189, 1, 10, 51, 52, 249, 250, 251, 252, 253, 254, 255, 256, 257, 258, 259, 260] (by decide +kernel) (by decide +kernel)
set_option maxRecDepth 20000 in
theorem gX1_perform_X1_endsHere : GoodIn wsX1_perform (wsV RX1 82 RX1 yX1_endsHere wsX1_endsHere) := goodIn_app (goodIn_of _ (by decide +kernel)) ggX1_perform_X1_endsHere
set_option maxRecDepth 20000 in
theorem ggX1_perform_X4_compose : GoodIn wsX1_perform wsX4_compose := goodIn_r _ [193, 167, 194, 195, 196, 197, 198, 168, 169, 170, 14, 171, 16, 199, 200, 201, 165, 202, 203, 204, 205, 206, 17, 207, 208, 209, 41, 210, 211, 212, 213, 214, 215, 216, 217, 218, 25, 26, 27, 219, 220, 221, 222, 223, 224, 225, 226, 227, 228, 229, 230, 231, 232, 233, 234, 235, 62, 63, 21, 64, 36, 236, 237, 238, 239, 240, 78, 79, 80, 35, 241, 242, 243, 244, 37, 61, 135, 245, 246, 247, 248, 273, 274, 275, 261, 262, 263, 264, 265, 266, 267, 268, 259, 260] (by decide +kernel) (by decide +kernel)
set_option maxRecDepth 20000 in
theorem gX1_perform_X4_compose : GoodIn wsX1_perform (wsV RX1 85 RX4 yX4_compose wsX4_compose) := goodIn_app (goodIn_of _ (by decide +kernel)) ggX1_perform_X4_compose
theorem dX1_perform_0 : decode cX1_perform 0 = .ok (.aload_n 0, 1) := by decide +kernel
theorem dX1_perform_1 : decode cX1_perform 1 = .ok (.iconst 0, 1) := by decide +kernel
theorem dX1_perform_2 : decode cX1_perform 2 = .ok (.putfield 34, 3) := by decide +kernel
theorem dX1_perform_5 : decode cX1_perform 5 = .ok (.aload_n 0, 1) := by decide +kernel
theorem dX1_perform_6 : decode cX1_perform 6 = .ok (.iconst 0, 1) := by decide +kernel
theorem dX1_perform_7 : decode cX1_perform 7 = .ok (.putfield 44, 3) := by decide +kernel
theorem dX1_perform_10 : decode cX1_perform 10 = .ok (.aload_n 0, 1) := by decide +kernel
theorem dX1_perform_11 : decode cX1_perform 11 = .ok (.invokevirtual 60, 3) := by decide +kernel
theorem dX1_perform_14 : decode cX1_perform 14 = .ok (.istore_n 1, 1) := by decide +kernel
theorem dX1_perform_15 : decode cX1_perform 15 = .ok (.iload_n 1, 1) := by decide +kernel
theorem dX1_perform_16 : decode cX1_perform 16 = .ok (.lookupswitch 143 #[(110, 113), (111, 97), (126, 80), (241, 92), (242, 113), (245, 68), (246, 113)], 68) := by decide +kernel
theorem dX1_perform_84 : decode cX1_perform 84 = .ok (.aload_n 0, 1) := by decide +kernel
theorem dX1_perform_85 : decode cX1_perform 85 = .ok (.getfield 9, 3) := by decide +kernel
theorem dX1_perform_88 : decode cX1_perform 88 = .ok (.invokevirtual 64, 3) := by decide +kernel
theorem dX1_perform_91 : decode cX1_perform 91 = .ok (.aload_n 0, 1) := by decide +kernel
theorem dX1_perform_92 : decode cX1_perform 92 = .ok (.invokevirtual 69, 3) := by decide +kernel
theorem dX1_perform_95 : decode cX1_perform 95 = .ok (.ireturn, 1) := by decide +kernel
theorem dX1_perform_96 : decode cX1_perform 96 = .ok (.aload_n 0, 1) := by decide +kernel
theorem dX1_perform_97 : decode cX1_perform 97 = .ok (.getfield 9, 3) := by decide +kernel
theorem dX1_perform_100 : decode cX1_perform 100 = .ok (.invokevirtual 73, 3) := by decide +kernel
theorem dX1_perform_103 : decode cX1_perform 103 = .ok (.aload_n 0, 1) := by decide +kernel
theorem dX1_perform_104 : decode cX1_perform 104 = .ok (.invokevirtual 69, 3) := by decide +kernel
theorem dX1_perform_107 : decode cX1_perform 107 = .ok (.ireturn, 1) := by decide +kernel
theorem dX1_perform_108 : decode cX1_perform 108 = .ok (.aload_n 0, 1) := by decide +kernel
theorem dX1_perform_109 : decode cX1_perform 109 = .ok (.invokevirtual 69, 3) := by decide +kernel
theorem dX1_perform_112 : decode cX1_perform 112 = .ok (.ireturn, 1) := by decide +kernel
theorem dX1_perform_113 : decode cX1_perform 113 = .ok (.aload_n 0, 1) := by decide +kernel
theorem dX1_perform_114 : decode cX1_perform 114 = .ok (.getfield 9, 3) := by decide +kernel
theorem dX1_perform_117 : decode cX1_perform 117 = .ok (.invokevirtual 76, 3) := by decide +kernel
theorem dX1_perform_120 : decode cX1_perform 120 = .ok (.aload_n 0, 1) := by decide +kernel
theorem dX1_perform_121 : decode cX1_perform 121 = .ok (.invokevirtual 79, 3) := by decide +kernel
theorem dX1_perform_124 : decode cX1_perform 124 = .ok (.aload_n 0, 1) := by decide +kernel
theorem dX1_perform_125 : decode cX1_perform 125 = .ok (.invokevirtual 82, 3) := by decide +kernel
theorem dX1_perform_128 : decode cX1_perform 128 = .ok (.ireturn, 1) := by decide +kernel
theorem dX1_perform_129 : decode cX1_perform 129 = .ok (.aload_n 0, 1) := by decide +kernel
theorem dX1_perform_130 : decode cX1_perform 130 = .ok (.invokevirtual 82, 3) := by decide +kernel
theorem dX1_perform_133 : decode cX1_perform 133 = .ok (.ifCond .ne 5, 3) := by decide +kernel
theorem dX1_perform_136 : decode cX1_perform 136 = .ok (.iconst 0, 1) := by decide +kernel
theorem dX1_perform_137 : decode cX1_perform 137 = .ok (.ireturn, 1) := by decide +kernel
theorem dX1_perform_138 : decode cX1_perform 138 = .ok (.aload_n 0, 1) := by decide +kernel
theorem dX1_perform_139 : decode cX1_perform 139 = .ok (.getfield 15, 3) := by decide +kernel
theorem dX1_perform_142 : decode cX1_perform 142 = .ok (.iload_n 1, 1) := by decide +kernel
theorem dX1_perform_143 : decode cX1_perform 143 = .ok (.sipush 242, 3) := by decide +kernel
theorem dX1_perform_146 : decode cX1_perform 146 = .ok (.if_icmp .ne 7, 3) := by decide +kernel
theorem dX1_perform_149 : decode cX1_perform 149 = .ok (.iconst 1, 1) := by decide +kernel
theorem dX1_perform_150 : decode cX1_perform 150 = .ok (.goto 4, 3) := by decide +kernel
theorem dX1_perform_153 : decode cX1_perform 153 = .ok (.iconst 0, 1) := by decide +kernel
theorem dX1_perform_154 : decode cX1_perform 154 = .ok (.invokevirtual 85, 3) := by decide +kernel
theorem dX1_perform_157 : decode cX1_perform 157 = .ok (.iconst 1, 1) := by decide +kernel
theorem dX1_perform_158 : decode cX1_perform 158 = .ok (.ireturn, 1) := by decide +kernel
theorem dX1_perform_159 : decode cX1_perform 159 = .ok (.iconst 0, 1) := by decide +kernel
theorem dX1_perform_160 : decode cX1_perform 160 = .ok (.ireturn, 1) := by decide +kernel
theorem dX1_endsHere_0 : decode cX1_endsHere 0 = .ok (.aload_n 0, 1) := by decide +kernel
theorem dX1_endsHere_1 : decode cX1_endsHere 1 = .ok (.getfield 34, 3) := by decide +kernel
theorem dX1_endsHere_4 : decode cX1_endsHere 4 = .ok (.aload_n 0, 1) := by decide +kernel
theorem dX1_endsHere_5 : decode cX1_endsHere 5 = .ok (.getfield 26, 3) := by decide +kernel
theorem dX1_endsHere_8 : decode cX1_endsHere 8 = .ok (.getfield 53, 3) := by decide +kernel
theorem dX1_endsHere_11 : decode cX1_endsHere 11 = .ok (.if_icmp .lt 14, 3) := by decide +kernel
theorem dX1_endsHere_14 : decode cX1_endsHere 14 = .ok (.aload_n 0, 1) := by decide +kernel
theorem dX1_endsHere_15 : decode cX1_endsHere 15 = .ok (.getfield 30, 3) := by decide +kernel
theorem dX1_endsHere_18 : decode cX1_endsHere 18 = .ok (.ifCond .ne 7, 3) := by decide +kernel
theorem dX1_endsHere_21 : decode cX1_endsHere 21 = .ok (.iconst 1, 1) := by decide +kernel
theorem dX1_endsHere_22 : decode cX1_endsHere 22 = .ok (.goto 4, 3) := by decide +kernel
theorem dX1_endsHere_25 : decode cX1_endsHere 25 = .ok (.iconst 0, 1) := by decide +kernel
theorem dX1_endsHere_26 : decode cX1_endsHere 26 = .ok (.ireturn, 1) := by decide +kernel
set_option maxRecDepth 20000 in
theorem ggX1_take_X0_get : GoodIn wsX1_take wsX0_get := goodIn_r _ [7, 8, 9, 20, 21] (by decide +kernel) (by decide +kernel)
set_option maxRecDepth 20000 in
theorem gX1_take_X0_get : GoodIn wsX1_take (wsV RX1 91 RX0 yX0_get wsX0_get) := goodIn_app (goodIn_of _ (by decide +kernel)) ggX1_take_X0_get
theorem dX1_take_0 : decode cX1_take 0 = .ok (.aload_n 0, 1) := by decide +kernel
theorem dX1_take_1 : decode cX1_take 1 = .ok (.getfield 26, 3) := by decide +kernel
theorem dX1_take_4 : decode cX1_take 4 = .ok (.aload_n 0, 1) := by decide +kernel
theorem dX1_take_5 : decode cX1_take 5 = .ok (.getfield 34, 3) := by decide +kernel
theorem dX1_take_8 : decode cX1_take 8 = .ok (.invokevirtual 91, 3) := by decide +kernel
theorem dX1_take_11 : decode cX1_take 11 = .ok (.istore_n 1, 1) := by decide +kernel
theorem dX1_take_12 : decode cX1_take 12 = .ok (.iload_n 1, 1) := by decide +kernel
theorem dX1_take_13 : decode cX1_take 13 = .ok (.iconst (-1), 1) := by decide +kernel
theorem dX1_take_14 : decode cX1_take 14 = .ok (.if_icmp .eq 13, 3) := by decide +kernel
theorem dX1_take_17 : decode cX1_take 17 = .ok (.aload_n 0, 1) := by decide +kernel
theorem dX1_take_18 : decode cX1_take 18 = .ok (.dup, 1) := by decide +kernel
theorem dX1_take_19 : decode cX1_take 19 = .ok (.getfield 34, 3) := by decide +kernel
theorem dX1_take_22 : decode cX1_take 22 = .ok (.iconst 1, 1) := by decide +kernel
theorem dX1_take_23 : decode cX1_take 23 = .ok (.iadd, 1) := by decide +kernel
theorem dX1_take_24 : decode cX1_take 24 = .ok (.putfield 34, 3) := by decide +kernel
theorem dX1_take_27 : decode cX1_take 27 = .ok (.iload_n 1, 1) := by decide +kernel
theorem dX1_take_28 : decode cX1_take 28 = .ok (.ireturn, 1) := by decide +kernel
set_option maxRecDepth 20000 in
theorem ggX1_freeKeyboard_X4_drop : GoodIn wsX1_freeKeyboard wsX4_drop := goodIn_r _ [8, 9, 10, 11, 12, 13, 14, 15, 30, 31, 32, 33, 34] (by decide +kernel) (by decide +kernel)
set_option maxRecDepth 20000 in
theorem gX1_freeKeyboard_X4_drop : GoodIn wsX1_freeKeyboard (wsV RX1 100 RX4 yX4_drop wsX4_drop) := goodIn_app (goodIn_of _ (by decide +kernel)) ggX1_freeKeyboard_X4_drop
theorem dX1_freeKeyboard_0 : decode cX1_freeKeyboard 0 = .ok (.aload_n 0, 1) := by decide +kernel
theorem dX1_freeKeyboard_1 : decode cX1_freeKeyboard 1 = .ok (.getfield 19, 3) := by decide +kernel
theorem dX1_freeKeyboard_4 : decode cX1_freeKeyboard 4 = .ok (.iconst 0, 1) := by decide +kernel
theorem dX1_freeKeyboard_5 : decode cX1_freeKeyboard 5 = .ok (.putfield 95, 3) := by decide +kernel
theorem dX1_freeKeyboard_8 : decode cX1_freeKeyboard 8 = .ok (.aload_n 0, 1) := by decide +kernel
theorem dX1_freeKeyboard_9 : decode cX1_freeKeyboard 9 = .ok (.getfield 15, 3) := by decide +kernel
theorem dX1_freeKeyboard_12 : decode cX1_freeKeyboard 12 = .ok (.invokevirtual 100, 3) := by decide +kernel
theorem dX1_freeKeyboard_15 : decode cX1_freeKeyboard 15 = .ok (.return_, 1) := by decide +kernel
set_option maxRecDepth 20000 in
theorem ggX1_write_X1_take : GoodIn wsX1_write wsX1_take := goodIn_r _ [15, 7, 6, 16, 17, 18, 19, 20, 21, 22, 147, 148, 149, 150, 151, 152, 153, 154, 155, 156, 165, 166] (by decide +kernel) (by decide +kernel)
set_option maxRecDepth 20000 in
theorem gX1_write_X1_take : GoodIn wsX1_write (wsV RX1 60 RX1 yX1_take wsX1_take) := goodIn_app (goodIn_of _ (by decide +kernel)) ggX1_write_X1_take
set_option maxRecDepth 20000 in
theorem ggX1_write_X3_noneModified : GoodIn wsX1_write wsX3_noneModified := goodIn_r _ [27, 28, 29, 30, 31, 26, 32, 33, 34, 35, 36, 37, 38, 39, 40, 41, 42, 157, 158, 159, 160, 161, 162, 163, 164] (by decide +kernel) (by decide +kernel)
set_option maxRecDepth 20000 in
theorem gX1_write_X3_noneModified : GoodIn wsX1_write (wsV RX1 103 RX3 yX3_noneModified wsX3_noneModified) := goodIn_app (goodIn_of _ (by decide +kernel)) ggX1_write_X3_noneModified
set_option maxRecDepth 20000 in
theorem ggX1_write_X1_isSign : GoodIn wsX1_write wsX1_isSign := goodIn_r _ [45] (by decide +kernel) (by decide +kernel)
set_option maxRecDepth 20000 in
theorem gX1_write_X1_isSign : GoodIn wsX1_write (va_wsS RX1 109 yX1_isSign wsX1_isSign) := goodIn_app (goodIn_of _ (by decide +kernel)) ggX1_write_X1_isSign
set_option maxRecDepth 20000 in
theorem ggX1_write_X1_putAndGoOn : GoodIn wsX1_write wsX1_putAndGoOn := goodIn_r _ [49, 1, 4, 50, 39, 40, 26, 41, 37, 42, 51, 52, 53, 54, 28, 147, 148, 149, 150, 151, 152, 153, 154, 155, 156, 157, 158, 159, 160, 161, 162, 163, 164] (by decide +kernel) (by decide +kernel)
set_option maxRecDepth 20000 in
theorem gX1_write_X1_putAndGoOn : GoodIn wsX1_write (wsV RX1 113 RX1 yX1_putAndGoOn wsX1_putAndGoOn) := goodIn_app (goodIn_of _ (by decide +kernel)) ggX1_write_X1_putAndGoOn
set_option maxRecDepth 20000 in
theorem ggX1_write_X1_order : GoodIn wsX1_write wsX1_order := goodIn_r _ [58, 1, 4, 3, 59, 60, 61, 14, 62, 63, 64, 65, 66, 67, 11, 12, 13, 15, 7, 6, 16, 17, 18, 19, 20, 21, 22, 68, 69, 70, 71, 46, 47, 48, 49, 50, 39, 40, 26, 41, 37, 42, 51, 52, 53, 54, 28, 72, 73, 74, 75, 8, 76, 77, 78, 79, 80, 34, 35, 36, 81, 82, 83, 84, 5, 85, 86, 87, 88, 89, 90, 91, 92, 33, 93, 94, 95, 96, 97, 98, 99, 100, 43, 44, 45, 101, 102, 103, 104, 105, 106, 107, 108, 38, 109, 110, 111, 112, 113, 114, 115, 116, 117, 118, 119, 120, 121, 122, 123, 124, 125, 126, 127, 128, 129, 147, 148, 149, 150, 151, 152, 153, 154, 155, 156, 157, 158, 159, 160, 161, 162, 163, 164, 165, 166] (by decide +kernel) (by decide +kernel)
set_option maxRecDepth 20000 in
theorem gX1_write_X1_order : GoodIn wsX1_write (wsV RX1 116 RX1 yX1_order wsX1_order) := goodIn_app (goodIn_of _ (by decide +kernel)) ggX1_write_X1_order
set_option maxRecDepth 20000 in
theorem ggX1_write_X1_freeKeyboard : GoodIn wsX1_write wsX1_freeKeyboard := goodIn_r _ [133, 134, 135, 136, 137, 138, 139, 140, 141, 142, 143, 144, 145, 19, 146, 21, 147, 148, 149, 150, 151, 152, 153, 154, 155, 156, 167, 168, 169, 170, 171, 172, 173, 165, 166] (by decide +kernel) (by decide +kernel)
set_option maxRecDepth 20000 in
theorem gX1_write_X1_freeKeyboard : GoodIn wsX1_write (wsV RX1 79 RX1 yX1_freeKeyboard wsX1_freeKeyboard) := goodIn_app (goodIn_of _ (by decide +kernel)) ggX1_write_X1_freeKeyboard
theorem dX1_write_0 : decode cX1_write 0 = .ok (.aload_n 0, 1) := by decide +kernel
theorem dX1_write_1 : decode cX1_write 1 = .ok (.invokevirtual 60, 3) := by decide +kernel
theorem dX1_write_4 : decode cX1_write 4 = .ok (.istore_n 1, 1) := by decide +kernel
theorem dX1_write_5 : decode cX1_write 5 = .ok (.iload_n 1, 1) := by decide +kernel
theorem dX1_write_6 : decode cX1_write 6 = .ok (.iconst (-1), 1) := by decide +kernel
theorem dX1_write_7 : decode cX1_write 7 = .ok (.if_icmp .ne 5, 3) := by decide +kernel
theorem dX1_write_10 : decode cX1_write 10 = .ok (.iconst 0, 1) := by decide +kernel
theorem dX1_write_11 : decode cX1_write 11 = .ok (.ireturn, 1) := by decide +kernel
theorem dX1_write_12 : decode cX1_write 12 = .ok (.iload_n 1, 1) := by decide +kernel
theorem dX1_write_13 : decode cX1_write 13 = .ok (.iconst 1, 1) := by decide +kernel
theorem dX1_write_14 : decode cX1_write 14 = .ok (.iand, 1) := by decide +kernel
theorem dX1_write_15 : decode cX1_write 15 = .ok (.ifCond .eq 10, 3) := by decide +kernel
theorem dX1_write_18 : decode cX1_write 18 = .ok (.aload_n 0, 1) := by decide +kernel
theorem dX1_write_19 : decode cX1_write 19 = .ok (.getfield 9, 3) := by decide +kernel
theorem dX1_write_22 : decode cX1_write 22 = .ok (.invokevirtual 103, 3) := by decide +kernel
theorem dX1_write_25 : decode cX1_write 25 = .ok (.iload_n 1, 1) := by decide +kernel
theorem dX1_write_26 : decode cX1_write 26 = .ok (.iconst 4, 1) := by decide +kernel
theorem dX1_write_27 : decode cX1_write 27 = .ok (.iand, 1) := by decide +kernel
theorem dX1_write_28 : decode cX1_write 28 = .ok (.ifCond .eq 13, 3) := by decide +kernel
theorem dX1_write_31 : decode cX1_write 31 = .ok (.aload_n 0, 1) := by decide +kernel
theorem dX1_write_32 : decode cX1_write 32 = .ok (.dup, 1) := by decide +kernel
theorem dX1_write_33 : decode cX1_write 33 = .ok (.getfield 47, 3) := by decide +kernel
theorem dX1_write_36 : decode cX1_write 36 = .ok (.iconst 1, 1) := by decide +kernel
theorem dX1_write_37 : decode cX1_write 37 = .ok (.iadd, 1) := by decide +kernel
theorem dX1_write_38 : decode cX1_write 38 = .ok (.putfield 47, 3) := by decide +kernel
theorem dX1_write_41 : decode cX1_write 41 = .ok (.aload_n 0, 1) := by decide +kernel
theorem dX1_write_42 : decode cX1_write 42 = .ok (.aload_n 0, 1) := by decide +kernel
theorem dX1_write_43 : decode cX1_write 43 = .ok (.getfield 9, 3) := by decide +kernel
theorem dX1_write_46 : decode cX1_write 46 = .ok (.getfield 106, 3) := by decide +kernel
theorem dX1_write_49 : decode cX1_write 49 = .ok (.putfield 38, 3) := by decide +kernel
theorem dX1_write_52 : decode cX1_write 52 = .ok (.aload_n 0, 1) := by decide +kernel
theorem dX1_write_53 : decode cX1_write 53 = .ok (.iconst 0, 1) := by decide +kernel
theorem dX1_write_54 : decode cX1_write 54 = .ok (.putfield 41, 3) := by decide +kernel
theorem dX1_write_57 : decode cX1_write 57 = .ok (.iconst 0, 1) := by decide +kernel
theorem dX1_write_58 : decode cX1_write 58 = .ok (.istore_n 2, 1) := by decide +kernel
theorem dX1_write_59 : decode cX1_write 59 = .ok (.iload_n 2, 1) := by decide +kernel
theorem dX1_write_60 : decode cX1_write 60 = .ok (.sipush 8192, 3) := by decide +kernel
theorem dX1_write_63 : decode cX1_write 63 = .ok (.if_icmp .ge 88, 3) := by decide +kernel
theorem dX1_write_66 : decode cX1_write 66 = .ok (.aload_n 0, 1) := by decide +kernel
theorem dX1_write_67 : decode cX1_write 67 = .ok (.getfield 34, 3) := by decide +kernel
theorem dX1_write_70 : decode cX1_write 70 = .ok (.aload_n 0, 1) := by decide +kernel
theorem dX1_write_71 : decode cX1_write 71 = .ok (.getfield 26, 3) := by decide +kernel
theorem dX1_write_74 : decode cX1_write 74 = .ok (.getfield 53, 3) := by decide +kernel
theorem dX1_write_77 : decode cX1_write 77 = .ok (.if_icmp .ge 74, 3) := by decide +kernel
theorem dX1_write_80 : decode cX1_write 80 = .ok (.aload_n 0, 1) := by decide +kernel
theorem dX1_write_81 : decode cX1_write 81 = .ok (.invokevirtual 60, 3) := by decide +kernel
theorem dX1_write_84 : decode cX1_write 84 = .ok (.istore_n 3, 1) := by decide +kernel
theorem dX1_write_85 : decode cX1_write 85 = .ok (.iload_n 3, 1) := by decide +kernel
theorem dX1_write_86 : decode cX1_write 86 = .ok (.invokestatic 109, 3) := by decide +kernel
theorem dX1_write_89 : decode cX1_write 89 = .ok (.ifCond .eq 11, 3) := by decide +kernel
theorem dX1_write_92 : decode cX1_write 92 = .ok (.aload_n 0, 1) := by decide +kernel
theorem dX1_write_93 : decode cX1_write 93 = .ok (.iload_n 3, 1) := by decide +kernel
theorem dX1_write_94 : decode cX1_write 94 = .ok (.invokevirtual 113, 3) := by decide +kernel
theorem dX1_write_97 : decode cX1_write 97 = .ok (.goto 26, 3) := by decide +kernel
theorem dX1_write_100 : decode cX1_write 100 = .ok (.aload_n 0, 1) := by decide +kernel
theorem dX1_write_101 : decode cX1_write 101 = .ok (.iload_n 3, 1) := by decide +kernel
theorem dX1_write_102 : decode cX1_write 102 = .ok (.invokevirtual 116, 3) := by decide +kernel
theorem dX1_write_105 : decode cX1_write 105 = .ok (.ifCond .eq 16, 3) := by decide +kernel
theorem dX1_write_108 : decode cX1_write 108 = .ok (.aload_n 0, 1) := by decide +kernel
theorem dX1_write_109 : decode cX1_write 109 = .ok (.dup, 1) := by decide +kernel
theorem dX1_write_110 : decode cX1_write 110 = .ok (.getfield 44, 3) := by decide +kernel
theorem dX1_write_113 : decode cX1_write 113 = .ok (.iconst 1, 1) := by decide +kernel
theorem dX1_write_114 : decode cX1_write 114 = .ok (.iadd, 1) := by decide +kernel
theorem dX1_write_115 : decode cX1_write 115 = .ok (.putfield 44, 3) := by decide +kernel
theorem dX1_write_118 : decode cX1_write 118 = .ok (.goto 5, 3) := by decide +kernel
theorem dX1_write_121 : decode cX1_write 121 = .ok (.iconst 0, 1) := by decide +kernel
theorem dX1_write_122 : decode cX1_write 122 = .ok (.ireturn, 1) := by decide +kernel
theorem dX1_write_123 : decode cX1_write 123 = .ok (.aload_n 0, 1) := by decide +kernel
theorem dX1_write_124 : decode cX1_write 124 = .ok (.iload_n 3, 1) := by decide +kernel
theorem dX1_write_125 : decode cX1_write 125 = .ok (.invokestatic 109, 3) := by decide +kernel
theorem dX1_write_128 : decode cX1_write 128 = .ok (.ifCond .ne 9, 3) := by decide +kernel
theorem dX1_write_131 : decode cX1_write 131 = .ok (.iload_n 3, 1) := by decide +kernel
theorem dX1_write_132 : decode cX1_write 132 = .ok (.bipush 8, 2) := by decide +kernel
theorem dX1_write_134 : decode cX1_write 134 = .ok (.if_icmp .ne 7, 3) := by decide +kernel
theorem dX1_write_137 : decode cX1_write 137 = .ok (.iconst 1, 1) := by decide +kernel
theorem dX1_write_138 : decode cX1_write 138 = .ok (.goto 4, 3) := by decide +kernel
theorem dX1_write_141 : decode cX1_write 141 = .ok (.iconst 0, 1) := by decide +kernel
theorem dX1_write_142 : decode cX1_write 142 = .ok (.putfield 41, 3) := by decide +kernel
theorem dX1_write_145 : decode cX1_write 145 = .ok (.iinc 2 1, 3) := by decide +kernel
theorem dX1_write_148 : decode cX1_write 148 = .ok (.goto (-89), 3) := by decide +kernel
theorem dX1_write_151 : decode cX1_write 151 = .ok (.aload_n 0, 1) := by decide +kernel
theorem dX1_write_152 : decode cX1_write 152 = .ok (.getfield 30, 3) := by decide +kernel
theorem dX1_write_155 : decode cX1_write 155 = .ok (.ifCond .eq 5, 3) := by decide +kernel
theorem dX1_write_158 : decode cX1_write 158 = .ok (.iconst 0, 1) := by decide +kernel
theorem dX1_write_159 : decode cX1_write 159 = .ok (.ireturn, 1) := by decide +kernel
theorem dX1_write_160 : decode cX1_write 160 = .ok (.iload_n 1, 1) := by decide +kernel
theorem dX1_write_161 : decode cX1_write 161 = .ok (.iconst 2, 1) := by decide +kernel
theorem dX1_write_162 : decode cX1_write 162 = .ok (.iand, 1) := by decide +kernel
theorem dX1_write_163 : decode cX1_write 163 = .ok (.ifCond .eq 7, 3) := by decide +kernel
theorem dX1_write_166 : decode cX1_write 166 = .ok (.aload_n 0, 1) := by decide +kernel
theorem dX1_write_167 : decode cX1_write 167 = .ok (.invokevirtual 79, 3) := by decide +kernel
theorem dX1_write_170 : decode cX1_write 170 = .ok (.iconst 1, 1) := by decide +kernel
theorem dX1_write_171 : decode cX1_write 171 = .ok (.ireturn, 1) := by decide +kernel
set_option maxRecDepth 20000 in
theorem ggX1_order_X1_goToAddress : GoodIn wsX1_order wsX1_goToAddress := goodIn_r _ [8, 2, 9, 10, 11, 7, 12, 1, 13, 14, 15, 16, 17, 18, 19, 20, 21, 22, 23, 24, 25, 26, 115, 116, 117, 118, 119, 120, 121, 122, 123, 124, 125, 126, 127, 128, 129, 130, 131, 132, 133, 134] (by decide +kernel) (by decide +kernel)
set_option maxRecDepth 20000 in
theorem gX1_order_X1_goToAddress : GoodIn wsX1_order (wsV RX1 119 RX1 yX1_goToAddress wsX1_goToAddress) := goodIn_app (goodIn_of _ (by decide +kernel)) ggX1_order_X1_goToAddress
set_option maxRecDepth 20000 in
theorem ggX1_order_X1_take : GoodIn wsX1_order wsX1_take := goodIn_r _ [17, 18, 19, 20, 21, 22, 23, 24, 25, 26, 115, 116, 117, 118, 119, 120, 121, 122, 123, 124, 133, 134] (by decide +kernel) (by decide +kernel)
set_option maxRecDepth 20000 in
theorem gX1_order_X1_take : GoodIn wsX1_order (wsV RX1 60 RX1 yX1_take wsX1_take) := goodIn_app (goodIn_of _ (by decide +kernel)) ggX1_order_X1_take
set_option maxRecDepth 20000 in
theorem ggX1_order_X1_startField : GoodIn wsX1_order wsX1_startField := goodIn_r _ [30, 31, 32, 33, 7, 34, 1, 2, 35, 36, 37, 38, 39, 40, 41, 42, 43, 44, 45, 46, 115, 116, 117, 118, 119, 120, 121, 122, 123, 124, 125, 126, 127, 128, 129, 130, 131, 132] (by decide +kernel) (by decide +kernel)
set_option maxRecDepth 20000 in
theorem gX1_order_X1_startField : GoodIn wsX1_order (wsV RX1 122 RX1 yX1_startField wsX1_startField) := goodIn_app (goodIn_of _ (by decide +kernel)) ggX1_order_X1_startField
set_option maxRecDepth 20000 in
theorem ggX1_order_X1_takePairs : GoodIn wsX1_order wsX1_takePairs := goodIn_r _ [50, 18, 51, 19, 14, 15, 16, 7, 17, 20, 21, 22, 23, 24, 25, 26, 115, 116, 117, 118, 119, 120, 121, 122, 123, 124, 133, 134] (by decide +kernel) (by decide +kernel)
set_option maxRecDepth 20000 in
theorem gX1_order_X1_takePairs : GoodIn wsX1_order (wsV RX1 125 RX1 yX1_takePairs wsX1_takePairs) := goodIn_app (goodIn_of _ (by decide +kernel)) ggX1_order_X1_takePairs
set_option maxRecDepth 20000 in
theorem ggX1_order_X1_changeAttribute : GoodIn wsX1_order wsX1_changeAttribute := goodIn_r _ [55, 1, 2, 56, 57, 58, 38, 59, 40, 47, 48, 49, 7, 50, 18, 51, 19, 14, 15, 16, 17, 20, 21, 22, 23, 24, 25, 26, 27, 28, 29, 30, 31, 32, 33, 34, 35, 36, 37, 39, 41, 42, 43, 44, 45, 46, 115, 116, 117, 118, 119, 120, 121, 122, 123, 124, 125, 126, 127, 128, 129, 130, 131, 132, 133, 134] (by decide +kernel) (by decide +kernel)
set_option maxRecDepth 20000 in
theorem gX1_order_X1_changeAttribute : GoodIn wsX1_order (wsV RX1 128 RX1 yX1_changeAttribute wsX1_changeAttribute) := goodIn_app (goodIn_of _ (by decide +kernel)) ggX1_order_X1_changeAttribute
set_option maxRecDepth 20000 in
theorem ggX1_order_X1_tab : GoodIn wsX1_order wsX1_tab := goodIn_r _ [63, 64, 1, 13, 2, 65, 66, 67, 7, 68, 56, 57, 58, 38, 59, 40, 35, 36, 37, 39, 41, 69, 70, 71, 72, 73, 74, 75, 76, 77, 42, 43, 44, 45, 46, 115, 116, 117, 118, 119, 120, 121, 122, 123, 124, 125, 126, 127, 128, 129, 130, 131, 132] (by decide +kernel) (by decide +kernel)
set_option maxRecDepth 20000 in
theorem gX1_order_X1_tab : GoodIn wsX1_order (wsV RX1 131 RX1 yX1_tab wsX1_tab) := goodIn_app (goodIn_of _ (by decide +kernel)) ggX1_order_X1_tab
set_option maxRecDepth 20000 in
theorem ggX1_order_X1_repeatToAddress : GoodIn wsX1_order wsX1_repeatToAddress := goodIn_r _ [81, 1, 2, 9, 10, 11, 7, 12, 13, 14, 15, 16, 17, 18, 19, 20, 21, 22, 23, 24, 25, 26, 82, 83, 84, 85, 86, 87, 38, 88, 46, 89, 90, 91, 92, 93, 36, 37, 39, 40, 41, 94, 43, 44, 45, 115, 116, 117, 118, 119, 120, 121, 122, 123, 124, 125, 126, 127, 128, 129, 130, 131, 132, 133, 134] (by decide +kernel) (by decide +kernel)
set_option maxRecDepth 20000 in
theorem gX1_order_X1_repeatToAddress : GoodIn wsX1_order (wsV RX1 134 RX1 yX1_repeatToAddress wsX1_repeatToAddress) := goodIn_app (goodIn_of _ (by decide +kernel)) ggX1_order_X1_repeatToAddress
set_option maxRecDepth 20000 in
theorem ggX1_order_X1_eraseToAddress : GoodIn wsX1_order wsX1_eraseToAddress := goodIn_r _ [98, 1, 2, 9, 10, 11, 7, 12, 13, 14, 15, 16, 17, 18, 19, 20, 21, 22, 23, 24, 25, 26, 85, 86, 87, 38, 88, 46, 99, 100, 101, 102, 103, 104, 105, 106, 41, 73, 57, 58, 59, 40, 107, 108, 109, 110, 74, 75, 76, 77, 93, 36, 37, 39, 94, 43, 44, 45, 115, 116, 117, 118, 119, 120, 121, 122, 123, 124, 125, 126, 127, 128, 129, 130, 131, 132, 133, 134] (by decide +kernel) (by decide +kernel)
set_option maxRecDepth 20000 in
theorem gX1_order_X1_eraseToAddress : GoodIn wsX1_order (wsV RX1 137 RX1 yX1_eraseToAddress wsX1_eraseToAddress) := goodIn_app (goodIn_of _ (by decide +kernel)) ggX1_order_X1_eraseToAddress
set_option maxRecDepth 20000 in
theorem ggX1_order_X1_putTakenSign : GoodIn wsX1_order wsX1_putTakenSign := goodIn_r _ [114, 14, 15, 16, 7, 17, 18, 19, 20, 21, 22, 23, 24, 25, 26, 82, 83, 84, 31, 32, 33, 34, 1, 2, 35, 36, 37, 38, 39, 40, 41, 42, 43, 44, 45, 46, 115, 116, 117, 118, 119, 120, 121, 122, 123, 124, 133, 134, 125, 126, 127, 128, 129, 130, 131, 132] (by decide +kernel) (by decide +kernel)
set_option maxRecDepth 20000 in
theorem gX1_order_X1_putTakenSign : GoodIn wsX1_order (wsV RX1 140 RX1 yX1_putTakenSign wsX1_putTakenSign) := goodIn_app (goodIn_of _ (by decide +kernel)) ggX1_order_X1_putTakenSign
theorem dX1_order_0 : decode cX1_order 0 = .ok (.iload_n 1, 1) := by decide +kernel
theorem dX1_order_1 : decode cX1_order 1 = .ok (.lookupswitch 146 #[(5, 125), (8, 141), (17, 83), (18, 136), (19, 112), (29, 88), (41, 97), (44, 107), (60, 131)], 83) := by decide +kernel
theorem dX1_order_84 : decode cX1_order 84 = .ok (.aload_n 0, 1) := by decide +kernel
theorem dX1_order_85 : decode cX1_order 85 = .ok (.invokevirtual 119, 3) := by decide +kernel
theorem dX1_order_88 : decode cX1_order 88 = .ok (.ireturn, 1) := by decide +kernel
theorem dX1_order_89 : decode cX1_order 89 = .ok (.aload_n 0, 1) := by decide +kernel
theorem dX1_order_90 : decode cX1_order 90 = .ok (.aload_n 0, 1) := by decide +kernel
theorem dX1_order_91 : decode cX1_order 91 = .ok (.invokevirtual 60, 3) := by decide +kernel
theorem dX1_order_94 : decode cX1_order 94 = .ok (.invokevirtual 122, 3) := by decide +kernel
theorem dX1_order_97 : decode cX1_order 97 = .ok (.ireturn, 1) := by decide +kernel
theorem dX1_order_98 : decode cX1_order 98 = .ok (.aload_n 0, 1) := by decide +kernel
theorem dX1_order_99 : decode cX1_order 99 = .ok (.aload_n 0, 1) := by decide +kernel
theorem dX1_order_100 : decode cX1_order 100 = .ok (.iconst 0, 1) := by decide +kernel
theorem dX1_order_101 : decode cX1_order 101 = .ok (.invokevirtual 125, 3) := by decide +kernel
theorem dX1_order_104 : decode cX1_order 104 = .ok (.invokevirtual 122, 3) := by decide +kernel
theorem dX1_order_107 : decode cX1_order 107 = .ok (.ireturn, 1) := by decide +kernel
theorem dX1_order_108 : decode cX1_order 108 = .ok (.aload_n 0, 1) := by decide +kernel
theorem dX1_order_109 : decode cX1_order 109 = .ok (.invokevirtual 128, 3) := by decide +kernel
theorem dX1_order_112 : decode cX1_order 112 = .ok (.ireturn, 1) := by decide +kernel
theorem dX1_order_113 : decode cX1_order 113 = .ok (.aload_n 0, 1) := by decide +kernel
theorem dX1_order_114 : decode cX1_order 114 = .ok (.getfield 9, 3) := by decide +kernel
theorem dX1_order_117 : decode cX1_order 117 = .ok (.aload_n 0, 1) := by decide +kernel
theorem dX1_order_118 : decode cX1_order 118 = .ok (.getfield 38, 3) := by decide +kernel
theorem dX1_order_121 : decode cX1_order 121 = .ok (.putfield 106, 3) := by decide +kernel
theorem dX1_order_124 : decode cX1_order 124 = .ok (.iconst 1, 1) := by decide +kernel
theorem dX1_order_125 : decode cX1_order 125 = .ok (.ireturn, 1) := by decide +kernel
theorem dX1_order_126 : decode cX1_order 126 = .ok (.aload_n 0, 1) := by decide +kernel
theorem dX1_order_127 : decode cX1_order 127 = .ok (.invokevirtual 131, 3) := by decide +kernel
theorem dX1_order_130 : decode cX1_order 130 = .ok (.iconst 1, 1) := by decide +kernel
theorem dX1_order_131 : decode cX1_order 131 = .ok (.ireturn, 1) := by decide +kernel
theorem dX1_order_132 : decode cX1_order 132 = .ok (.aload_n 0, 1) := by decide +kernel
theorem dX1_order_133 : decode cX1_order 133 = .ok (.invokevirtual 134, 3) := by decide +kernel
theorem dX1_order_136 : decode cX1_order 136 = .ok (.ireturn, 1) := by decide +kernel
theorem dX1_order_137 : decode cX1_order 137 = .ok (.aload_n 0, 1) := by decide +kernel
theorem dX1_order_138 : decode cX1_order 138 = .ok (.invokevirtual 137, 3) := by decide +kernel
theorem dX1_order_141 : decode cX1_order 141 = .ok (.ireturn, 1) := by decide +kernel
theorem dX1_order_142 : decode cX1_order 142 = .ok (.aload_n 0, 1) := by decide +kernel
theorem dX1_order_143 : decode cX1_order 143 = .ok (.invokevirtual 140, 3) := by decide +kernel
theorem dX1_order_146 : decode cX1_order 146 = .ok (.ireturn, 1) := by decide +kernel
theorem dX1_order_147 : decode cX1_order 147 = .ok (.iconst 0, 1) := by decide +kernel
theorem dX1_order_148 : decode cX1_order 148 = .ok (.ireturn, 1) := by decide +kernel
theorem dX1_isSign_0 : decode cX1_isSign 0 = .ok (.iload_n 0, 1) := by decide +kernel
theorem dX1_isSign_1 : decode cX1_isSign 1 = .ok (.ifCond .eq 9, 3) := by decide +kernel
theorem dX1_isSign_4 : decode cX1_isSign 4 = .ok (.iload_n 0, 1) := by decide +kernel
theorem dX1_isSign_5 : decode cX1_isSign 5 = .ok (.bipush 64, 2) := by decide +kernel
theorem dX1_isSign_7 : decode cX1_isSign 7 = .ok (.if_icmp .lt 7, 3) := by decide +kernel
theorem dX1_isSign_10 : decode cX1_isSign 10 = .ok (.iconst 1, 1) := by decide +kernel
theorem dX1_isSign_11 : decode cX1_isSign 11 = .ok (.goto 4, 3) := by decide +kernel
theorem dX1_isSign_14 : decode cX1_isSign 14 = .ok (.iconst 0, 1) := by decide +kernel
theorem dX1_isSign_15 : decode cX1_isSign 15 = .ok (.ireturn, 1) := by decide +kernel
set_option maxRecDepth 20000 in
theorem ggX1_putAndGoOn_X3_put : GoodIn wsX1_putAndGoOn wsX3_put := goodIn_r _ [7, 8, 9, 25, 26, 27, 28, 29, 30, 31, 32] (by decide +kernel) (by decide +kernel)
set_option maxRecDepth 20000 in
theorem gX1_putAndGoOn_X3_put : GoodIn wsX1_putAndGoOn (wsV RX1 143 RX3 yX3_put wsX3_put) := goodIn_app (goodIn_of _ (by decide +kernel)) ggX1_putAndGoOn_X3_put
set_option maxRecDepth 20000 in
theorem ggX1_putAndGoOn_X3_after : GoodIn wsX1_putAndGoOn wsX3_after := goodIn_r _ [13, 14, 25, 26, 27, 28, 29, 30, 31, 32] (by decide +kernel) (by decide +kernel)
set_option maxRecDepth 20000 in
theorem gX1_putAndGoOn_X3_after : GoodIn wsX1_putAndGoOn (wsV RX1 147 RX3 yX3_after wsX3_after) := goodIn_app (goodIn_of _ (by decide +kernel)) ggX1_putAndGoOn_X3_after
theorem dX1_putAndGoOn_0 : decode cX1_putAndGoOn 0 = .ok (.aload_n 0, 1) := by decide +kernel
theorem dX1_putAndGoOn_1 : decode cX1_putAndGoOn 1 = .ok (.getfield 9, 3) := by decide +kernel
theorem dX1_putAndGoOn_4 : decode cX1_putAndGoOn 4 = .ok (.aload_n 0, 1) := by decide +kernel
theorem dX1_putAndGoOn_5 : decode cX1_putAndGoOn 5 = .ok (.getfield 38, 3) := by decide +kernel
theorem dX1_putAndGoOn_8 : decode cX1_putAndGoOn 8 = .ok (.iload_n 1, 1) := by decide +kernel
theorem dX1_putAndGoOn_9 : decode cX1_putAndGoOn 9 = .ok (.invokevirtual 143, 3) := by decide +kernel
theorem dX1_putAndGoOn_12 : decode cX1_putAndGoOn 12 = .ok (.aload_n 0, 1) := by decide +kernel
theorem dX1_putAndGoOn_13 : decode cX1_putAndGoOn 13 = .ok (.aload_n 0, 1) := by decide +kernel
theorem dX1_putAndGoOn_14 : decode cX1_putAndGoOn 14 = .ok (.getfield 9, 3) := by decide +kernel
theorem dX1_putAndGoOn_17 : decode cX1_putAndGoOn 17 = .ok (.aload_n 0, 1) := by decide +kernel
theorem dX1_putAndGoOn_18 : decode cX1_putAndGoOn 18 = .ok (.getfield 38, 3) := by decide +kernel
theorem dX1_putAndGoOn_21 : decode cX1_putAndGoOn 21 = .ok (.invokevirtual 147, 3) := by decide +kernel
theorem dX1_putAndGoOn_24 : decode cX1_putAndGoOn 24 = .ok (.putfield 38, 3) := by decide +kernel
theorem dX1_putAndGoOn_27 : decode cX1_putAndGoOn 27 = .ok (.return_, 1) := by decide +kernel
set_option maxRecDepth 20000 in
theorem ggX1_takeAddress_X1_take : GoodIn wsX1_takeAddress wsX1_take := goodIn_r _ [7, 8, 9, 10, 11, 12, 13, 14, 15, 16, 17, 18, 19, 20, 21, 22, 23, 24, 25, 26, 35, 36] (by decide +kernel) (by decide +kernel)
set_option maxRecDepth 20000 in
theorem gX1_takeAddress_X1_take : GoodIn wsX1_takeAddress (wsV RX1 60 RX1 yX1_take wsX1_take) := goodIn_app (goodIn_of _ (by decide +kernel)) ggX1_takeAddress_X1_take
theorem dX1_takeAddress_0 : decode cX1_takeAddress 0 = .ok (.aload_n 0, 1) := by decide +kernel
theorem dX1_takeAddress_1 : decode cX1_takeAddress 1 = .ok (.invokevirtual 60, 3) := by decide +kernel
theorem dX1_takeAddress_4 : decode cX1_takeAddress 4 = .ok (.istore_n 1, 1) := by decide +kernel
theorem dX1_takeAddress_5 : decode cX1_takeAddress 5 = .ok (.aload_n 0, 1) := by decide +kernel
theorem dX1_takeAddress_6 : decode cX1_takeAddress 6 = .ok (.invokevirtual 60, 3) := by decide +kernel
theorem dX1_takeAddress_9 : decode cX1_takeAddress 9 = .ok (.istore_n 2, 1) := by decide +kernel
theorem dX1_takeAddress_10 : decode cX1_takeAddress 10 = .ok (.iload_n 1, 1) := by decide +kernel
theorem dX1_takeAddress_11 : decode cX1_takeAddress 11 = .ok (.iconst (-1), 1) := by decide +kernel
theorem dX1_takeAddress_12 : decode cX1_takeAddress 12 = .ok (.if_icmp .eq 8, 3) := by decide +kernel
theorem dX1_takeAddress_15 : decode cX1_takeAddress 15 = .ok (.iload_n 2, 1) := by decide +kernel
theorem dX1_takeAddress_16 : decode cX1_takeAddress 16 = .ok (.iconst (-1), 1) := by decide +kernel
theorem dX1_takeAddress_17 : decode cX1_takeAddress 17 = .ok (.if_icmp .ne 5, 3) := by decide +kernel
theorem dX1_takeAddress_20 : decode cX1_takeAddress 20 = .ok (.iconst (-1), 1) := by decide +kernel
theorem dX1_takeAddress_21 : decode cX1_takeAddress 21 = .ok (.ireturn, 1) := by decide +kernel
theorem dX1_takeAddress_22 : decode cX1_takeAddress 22 = .ok (.iload_n 1, 1) := by decide +kernel
theorem dX1_takeAddress_23 : decode cX1_takeAddress 23 = .ok (.bipush 64, 2) := by decide +kernel
theorem dX1_takeAddress_25 : decode cX1_takeAddress 25 = .ok (.if_icmp .ge 13, 3) := by decide +kernel
theorem dX1_takeAddress_28 : decode cX1_takeAddress 28 = .ok (.iload_n 1, 1) := by decide +kernel
theorem dX1_takeAddress_29 : decode cX1_takeAddress 29 = .ok (.sipush 256, 3) := by decide +kernel
theorem dX1_takeAddress_32 : decode cX1_takeAddress 32 = .ok (.imul, 1) := by decide +kernel
theorem dX1_takeAddress_33 : decode cX1_takeAddress 33 = .ok (.iload_n 2, 1) := by decide +kernel
theorem dX1_takeAddress_34 : decode cX1_takeAddress 34 = .ok (.iadd, 1) := by decide +kernel
theorem dX1_takeAddress_35 : decode cX1_takeAddress 35 = .ok (.goto 15, 3) := by decide +kernel
theorem dX1_takeAddress_38 : decode cX1_takeAddress 38 = .ok (.iload_n 1, 1) := by decide +kernel
theorem dX1_takeAddress_39 : decode cX1_takeAddress 39 = .ok (.bipush 63, 2) := by decide +kernel
theorem dX1_takeAddress_41 : decode cX1_takeAddress 41 = .ok (.iand, 1) := by decide +kernel
theorem dX1_takeAddress_42 : decode cX1_takeAddress 42 = .ok (.bipush 64, 2) := by decide +kernel
theorem dX1_takeAddress_44 : decode cX1_takeAddress 44 = .ok (.imul, 1) := by decide +kernel
theorem dX1_takeAddress_45 : decode cX1_takeAddress 45 = .ok (.iload_n 2, 1) := by decide +kernel
theorem dX1_takeAddress_46 : decode cX1_takeAddress 46 = .ok (.bipush 63, 2) := by decide +kernel
theorem dX1_takeAddress_48 : decode cX1_takeAddress 48 = .ok (.iand, 1) := by decide +kernel
theorem dX1_takeAddress_49 : decode cX1_takeAddress 49 = .ok (.iadd, 1) := by decide +kernel
theorem dX1_takeAddress_50 : decode cX1_takeAddress 50 = .ok (.istore_n 3, 1) := by decide +kernel
theorem dX1_takeAddress_51 : decode cX1_takeAddress 51 = .ok (.iload_n 3, 1) := by decide +kernel
theorem dX1_takeAddress_52 : decode cX1_takeAddress 52 = .ok (.aload_n 0, 1) := by decide +kernel
theorem dX1_takeAddress_53 : decode cX1_takeAddress 53 = .ok (.getfield 9, 3) := by decide +kernel
theorem dX1_takeAddress_56 : decode cX1_takeAddress 56 = .ok (.getfield 150, 3) := by decide +kernel
theorem dX1_takeAddress_59 : decode cX1_takeAddress 59 = .ok (.if_icmp .ge 7, 3) := by decide +kernel
theorem dX1_takeAddress_62 : decode cX1_takeAddress 62 = .ok (.iload_n 3, 1) := by decide +kernel
theorem dX1_takeAddress_63 : decode cX1_takeAddress 63 = .ok (.goto 4, 3) := by decide +kernel
theorem dX1_takeAddress_66 : decode cX1_takeAddress 66 = .ok (.iconst (-1), 1) := by decide +kernel
theorem dX1_takeAddress_67 : decode cX1_takeAddress 67 = .ok (.ireturn, 1) := by decide +kernel
set_option maxRecDepth 20000 in
theorem ggX1_takePairs_X1_take : GoodIn wsX1_takePairs wsX1_take := goodIn_r _ [8, 1, 3, 9, 10, 11, 12, 13, 14, 15, 16, 17, 18, 19, 20, 21, 22, 23, 24, 25, 26, 27] (by decide +kernel) (by decide +kernel)
set_option maxRecDepth 20000 in
theorem gX1_takePairs_X1_take : GoodIn wsX1_takePairs (wsV RX1 60 RX1 yX1_take wsX1_take) := goodIn_app (goodIn_of _ (by decide +kernel)) ggX1_takePairs_X1_take
theorem dX1_takePairs_0 : decode cX1_takePairs 0 = .ok (.aload_n 0, 1) := by decide +kernel
theorem dX1_takePairs_1 : decode cX1_takePairs 1 = .ok (.invokevirtual 60, 3) := by decide +kernel
theorem dX1_takePairs_4 : decode cX1_takePairs 4 = .ok (.istore_n 2, 1) := by decide +kernel
theorem dX1_takePairs_5 : decode cX1_takePairs 5 = .ok (.iload_n 2, 1) := by decide +kernel
theorem dX1_takePairs_6 : decode cX1_takePairs 6 = .ok (.iconst (-1), 1) := by decide +kernel
theorem dX1_takePairs_7 : decode cX1_takePairs 7 = .ok (.if_icmp .eq 21, 3) := by decide +kernel
theorem dX1_takePairs_10 : decode cX1_takePairs 10 = .ok (.aload_n 0, 1) := by decide +kernel
theorem dX1_takePairs_11 : decode cX1_takePairs 11 = .ok (.getfield 26, 3) := by decide +kernel
theorem dX1_takePairs_14 : decode cX1_takePairs 14 = .ok (.getfield 53, 3) := by decide +kernel
theorem dX1_takePairs_17 : decode cX1_takePairs 17 = .ok (.aload_n 0, 1) := by decide +kernel
theorem dX1_takePairs_18 : decode cX1_takePairs 18 = .ok (.getfield 34, 3) := by decide +kernel
theorem dX1_takePairs_21 : decode cX1_takePairs 21 = .ok (.isub, 1) := by decide +kernel
theorem dX1_takePairs_22 : decode cX1_takePairs 22 = .ok (.iconst 2, 1) := by decide +kernel
theorem dX1_takePairs_23 : decode cX1_takePairs 23 = .ok (.iload_n 2, 1) := by decide +kernel
theorem dX1_takePairs_24 : decode cX1_takePairs 24 = .ok (.imul, 1) := by decide +kernel
theorem dX1_takePairs_25 : decode cX1_takePairs 25 = .ok (.if_icmp .ge 5, 3) := by decide +kernel
theorem dX1_takePairs_28 : decode cX1_takePairs 28 = .ok (.iconst (-1), 1) := by decide +kernel
theorem dX1_takePairs_29 : decode cX1_takePairs 29 = .ok (.ireturn, 1) := by decide +kernel
theorem dX1_takePairs_30 : decode cX1_takePairs 30 = .ok (.iload_n 1, 1) := by decide +kernel
theorem dX1_takePairs_31 : decode cX1_takePairs 31 = .ok (.istore_n 3, 1) := by decide +kernel
theorem dX1_takePairs_32 : decode cX1_takePairs 32 = .ok (.iconst 0, 1) := by decide +kernel
theorem dX1_takePairs_33 : decode cX1_takePairs 33 = .ok (.istore 4, 2) := by decide +kernel
theorem dX1_takePairs_35 : decode cX1_takePairs 35 = .ok (.iload 4, 2) := by decide +kernel
theorem dX1_takePairs_37 : decode cX1_takePairs 37 = .ok (.iload_n 2, 1) := by decide +kernel
theorem dX1_takePairs_38 : decode cX1_takePairs 38 = .ok (.if_icmp .ge 32, 3) := by decide +kernel
theorem dX1_takePairs_41 : decode cX1_takePairs 41 = .ok (.aload_n 0, 1) := by decide +kernel
theorem dX1_takePairs_42 : decode cX1_takePairs 42 = .ok (.invokevirtual 60, 3) := by decide +kernel
theorem dX1_takePairs_45 : decode cX1_takePairs 45 = .ok (.istore 5, 2) := by decide +kernel
theorem dX1_takePairs_47 : decode cX1_takePairs 47 = .ok (.aload_n 0, 1) := by decide +kernel
theorem dX1_takePairs_48 : decode cX1_takePairs 48 = .ok (.invokevirtual 60, 3) := by decide +kernel
theorem dX1_takePairs_51 : decode cX1_takePairs 51 = .ok (.istore 6, 2) := by decide +kernel
theorem dX1_takePairs_53 : decode cX1_takePairs 53 = .ok (.iload 5, 2) := by decide +kernel
theorem dX1_takePairs_55 : decode cX1_takePairs 55 = .ok (.sipush 192, 3) := by decide +kernel
theorem dX1_takePairs_58 : decode cX1_takePairs 58 = .ok (.if_icmp .ne 6, 3) := by decide +kernel
theorem dX1_takePairs_61 : decode cX1_takePairs 61 = .ok (.iload 6, 2) := by decide +kernel
theorem dX1_takePairs_63 : decode cX1_takePairs 63 = .ok (.istore_n 3, 1) := by decide +kernel
theorem dX1_takePairs_64 : decode cX1_takePairs 64 = .ok (.iinc 4 1, 3) := by decide +kernel
theorem dX1_takePairs_67 : decode cX1_takePairs 67 = .ok (.goto (-32), 3) := by decide +kernel
theorem dX1_takePairs_70 : decode cX1_takePairs 70 = .ok (.iload_n 3, 1) := by decide +kernel
theorem dX1_takePairs_71 : decode cX1_takePairs 71 = .ok (.ireturn, 1) := by decide +kernel
set_option maxRecDepth 20000 in
theorem ggX1_goToAddress_X1_takeAddress : GoodIn wsX1_goToAddress wsX1_takeAddress := goodIn_r _ [6, 7, 8, 9, 10, 11, 5, 12, 13, 14, 15, 16, 17, 18, 19, 20, 21, 22, 23, 24, 25, 26, 27, 28, 29, 30, 31, 32, 33, 34, 35, 36, 37, 38, 39, 40, 41] (by decide +kernel) (by decide +kernel)
set_option maxRecDepth 20000 in
theorem gX1_goToAddress_X1_takeAddress : GoodIn wsX1_goToAddress (wsV RX1 153 RX1 yX1_takeAddress wsX1_takeAddress) := goodIn_app (goodIn_of _ (by decide +kernel)) ggX1_goToAddress_X1_takeAddress
theorem dX1_goToAddress_0 : decode cX1_goToAddress 0 = .ok (.aload_n 0, 1) := by decide +kernel
theorem dX1_goToAddress_1 : decode cX1_goToAddress 1 = .ok (.invokevirtual 153, 3) := by decide +kernel
theorem dX1_goToAddress_4 : decode cX1_goToAddress 4 = .ok (.istore_n 1, 1) := by decide +kernel
theorem dX1_goToAddress_5 : decode cX1_goToAddress 5 = .ok (.iload_n 1, 1) := by decide +kernel
theorem dX1_goToAddress_6 : decode cX1_goToAddress 6 = .ok (.iconst (-1), 1) := by decide +kernel
theorem dX1_goToAddress_7 : decode cX1_goToAddress 7 = .ok (.if_icmp .ne 5, 3) := by decide +kernel
theorem dX1_goToAddress_10 : decode cX1_goToAddress 10 = .ok (.iconst 0, 1) := by decide +kernel
theorem dX1_goToAddress_11 : decode cX1_goToAddress 11 = .ok (.ireturn, 1) := by decide +kernel
theorem dX1_goToAddress_12 : decode cX1_goToAddress 12 = .ok (.aload_n 0, 1) := by decide +kernel
theorem dX1_goToAddress_13 : decode cX1_goToAddress 13 = .ok (.iload_n 1, 1) := by decide +kernel
theorem dX1_goToAddress_14 : decode cX1_goToAddress 14 = .ok (.putfield 38, 3) := by decide +kernel
theorem dX1_goToAddress_17 : decode cX1_goToAddress 17 = .ok (.iconst 1, 1) := by decide +kernel
theorem dX1_goToAddress_18 : decode cX1_goToAddress 18 = .ok (.ireturn, 1) := by decide +kernel
set_option maxRecDepth 20000 in
theorem ggX1_startField_X1_putAndGoOn : GoodIn wsX1_startField wsX1_putAndGoOn := goodIn_r _ [5, 6, 7, 8, 9, 10, 11, 12, 13, 14, 15, 16, 17, 18, 19, 20, 21, 22, 23, 24, 25, 26, 27, 28, 29, 30, 31, 32, 33, 34, 35, 36, 37] (by decide +kernel) (by decide +kernel)
set_option maxRecDepth 20000 in
theorem gX1_startField_X1_putAndGoOn : GoodIn wsX1_startField (wsV RX1 113 RX1 yX1_putAndGoOn wsX1_putAndGoOn) := goodIn_app (goodIn_of _ (by decide +kernel)) ggX1_startField_X1_putAndGoOn
theorem dX1_startField_0 : decode cX1_startField 0 = .ok (.iload_n 1, 1) := by decide +kernel
theorem dX1_startField_1 : decode cX1_startField 1 = .ok (.iconst (-1), 1) := by decide +kernel
theorem dX1_startField_2 : decode cX1_startField 2 = .ok (.if_icmp .ne 5, 3) := by decide +kernel
theorem dX1_startField_5 : decode cX1_startField 5 = .ok (.iconst 0, 1) := by decide +kernel
theorem dX1_startField_6 : decode cX1_startField 6 = .ok (.ireturn, 1) := by decide +kernel
theorem dX1_startField_7 : decode cX1_startField 7 = .ok (.aload_n 0, 1) := by decide +kernel
theorem dX1_startField_8 : decode cX1_startField 8 = .ok (.sipush 256, 3) := by decide +kernel
theorem dX1_startField_11 : decode cX1_startField 11 = .ok (.iload_n 1, 1) := by decide +kernel
theorem dX1_startField_12 : decode cX1_startField 12 = .ok (.iadd, 1) := by decide +kernel
theorem dX1_startField_13 : decode cX1_startField 13 = .ok (.invokevirtual 113, 3) := by decide +kernel
theorem dX1_startField_16 : decode cX1_startField 16 = .ok (.iconst 1, 1) := by decide +kernel
theorem dX1_startField_17 : decode cX1_startField 17 = .ok (.ireturn, 1) := by decide +kernel
set_option maxRecDepth 20000 in
theorem ggX1_changeAttribute_X3_get : GoodIn wsX1_changeAttribute wsX3_get := goodIn_r _ [7, 8, 56, 57, 58, 59, 60, 61, 62, 63] (by decide +kernel) (by decide +kernel)
set_option maxRecDepth 20000 in
theorem gX1_changeAttribute_X3_get : GoodIn wsX1_changeAttribute (wsV RX1 156 RX3 yX3_get wsX3_get) := goodIn_app (goodIn_of _ (by decide +kernel)) ggX1_changeAttribute_X3_get
set_option maxRecDepth 20000 in
theorem ggX1_changeAttribute_X1_takePairs : GoodIn wsX1_changeAttribute wsX1_takePairs := goodIn_r _ [13, 14, 15, 16, 17, 18, 19, 12, 20, 21, 22, 23, 24, 25, 26, 27, 46, 47, 48, 49, 50, 51, 52, 53, 54, 55, 64, 65] (by decide +kernel) (by decide +kernel)
set_option maxRecDepth 20000 in
theorem gX1_changeAttribute_X1_takePairs : GoodIn wsX1_changeAttribute (wsV RX1 125 RX1 yX1_takePairs wsX1_takePairs) := goodIn_app (goodIn_of _ (by decide +kernel)) ggX1_changeAttribute_X1_takePairs
set_option maxRecDepth 20000 in
theorem ggX1_changeAttribute_X1_startField : GoodIn wsX1_changeAttribute wsX1_startField := goodIn_r _ [31, 32, 33, 34, 12, 35, 1, 2, 36, 37, 38, 6, 39, 8, 40, 41, 42, 43, 44, 45, 46, 47, 48, 49, 50, 51, 52, 53, 54, 55, 56, 57, 58, 59, 60, 61, 62, 63] (by decide +kernel) (by decide +kernel)
set_option maxRecDepth 20000 in
theorem gX1_changeAttribute_X1_startField : GoodIn wsX1_changeAttribute (wsV RX1 122 RX1 yX1_startField wsX1_startField) := goodIn_app (goodIn_of _ (by decide +kernel)) ggX1_changeAttribute_X1_startField
theorem dX1_changeAttribute_0 : decode cX1_changeAttribute 0 = .ok (.aload_n 0, 1) := by decide +kernel
theorem dX1_changeAttribute_1 : decode cX1_changeAttribute 1 = .ok (.getfield 9, 3) := by decide +kernel
theorem dX1_changeAttribute_4 : decode cX1_changeAttribute 4 = .ok (.aload_n 0, 1) := by decide +kernel
theorem dX1_changeAttribute_5 : decode cX1_changeAttribute 5 = .ok (.getfield 38, 3) := by decide +kernel
theorem dX1_changeAttribute_8 : decode cX1_changeAttribute 8 = .ok (.invokevirtual 156, 3) := by decide +kernel
theorem dX1_changeAttribute_11 : decode cX1_changeAttribute 11 = .ok (.istore_n 1, 1) := by decide +kernel
theorem dX1_changeAttribute_12 : decode cX1_changeAttribute 12 = .ok (.iload_n 1, 1) := by decide +kernel
theorem dX1_changeAttribute_13 : decode cX1_changeAttribute 13 = .ok (.sipush 256, 3) := by decide +kernel
theorem dX1_changeAttribute_16 : decode cX1_changeAttribute 16 = .ok (.if_icmp .ge 5, 3) := by decide +kernel
theorem dX1_changeAttribute_19 : decode cX1_changeAttribute 19 = .ok (.iconst 0, 1) := by decide +kernel
theorem dX1_changeAttribute_20 : decode cX1_changeAttribute 20 = .ok (.ireturn, 1) := by decide +kernel
theorem dX1_changeAttribute_21 : decode cX1_changeAttribute 21 = .ok (.aload_n 0, 1) := by decide +kernel
theorem dX1_changeAttribute_22 : decode cX1_changeAttribute 22 = .ok (.aload_n 0, 1) := by decide +kernel
theorem dX1_changeAttribute_23 : decode cX1_changeAttribute 23 = .ok (.iload_n 1, 1) := by decide +kernel
theorem dX1_changeAttribute_24 : decode cX1_changeAttribute 24 = .ok (.sipush 256, 3) := by decide +kernel
theorem dX1_changeAttribute_27 : decode cX1_changeAttribute 27 = .ok (.isub, 1) := by decide +kernel
theorem dX1_changeAttribute_28 : decode cX1_changeAttribute 28 = .ok (.invokevirtual 125, 3) := by decide +kernel
theorem dX1_changeAttribute_31 : decode cX1_changeAttribute 31 = .ok (.invokevirtual 122, 3) := by decide +kernel
theorem dX1_changeAttribute_34 : decode cX1_changeAttribute 34 = .ok (.ireturn, 1) := by decide +kernel
set_option maxRecDepth 20000 in
theorem ggX1_tab_X1_emptyUpToAttribute : GoodIn wsX1_tab wsX1_emptyUpToAttribute := goodIn_r _ [9, 4, 2, 3, 10, 11, 12, 13, 14, 15, 16, 17, 18, 19, 20, 35, 36, 37, 38, 39, 40, 41, 42, 43, 44, 45, 46, 47, 48, 49, 50, 51, 52] (by decide +kernel) (by decide +kernel)
set_option maxRecDepth 20000 in
theorem gX1_tab_X1_emptyUpToAttribute : GoodIn wsX1_tab (wsV RX1 157 RX1 yX1_emptyUpToAttribute wsX1_emptyUpToAttribute) := goodIn_app (goodIn_of _ (by decide +kernel)) ggX1_tab_X1_emptyUpToAttribute
set_option maxRecDepth 20000 in
theorem ggX1_tab_X3_startsOpenField : GoodIn wsX1_tab wsX3_startsOpenField := goodIn_r _ [24, 25, 11, 12, 13, 14, 15, 26, 27, 28, 29, 45, 46, 47, 48, 49, 50, 51, 52] (by decide +kernel) (by decide +kernel)
set_option maxRecDepth 20000 in
theorem gX1_tab_X3_startsOpenField : GoodIn wsX1_tab (wsV RX1 160 RX3 yX3_startsOpenField wsX3_startsOpenField) := goodIn_app (goodIn_of _ (by decide +kernel)) ggX1_tab_X3_startsOpenField
set_option maxRecDepth 20000 in
theorem ggX1_tab_X3_after : GoodIn wsX1_tab wsX3_after := goodIn_r _ [33, 34, 45, 46, 47, 48, 49, 50, 51, 52] (by decide +kernel) (by decide +kernel)
set_option maxRecDepth 20000 in
theorem gX1_tab_X3_after : GoodIn wsX1_tab (wsV RX1 147 RX3 yX3_after wsX3_after) := goodIn_app (goodIn_of _ (by decide +kernel)) ggX1_tab_X3_after
theorem dX1_tab_0 : decode cX1_tab 0 = .ok (.aload_n 0, 1) := by decide +kernel
theorem dX1_tab_1 : decode cX1_tab 1 = .ok (.getfield 41, 3) := by decide +kernel
theorem dX1_tab_4 : decode cX1_tab 4 = .ok (.ifCond .eq 7, 3) := by decide +kernel
theorem dX1_tab_7 : decode cX1_tab 7 = .ok (.aload_n 0, 1) := by decide +kernel
theorem dX1_tab_8 : decode cX1_tab 8 = .ok (.invokevirtual 157, 3) := by decide +kernel
theorem dX1_tab_11 : decode cX1_tab 11 = .ok (.iconst 0, 1) := by decide +kernel
theorem dX1_tab_12 : decode cX1_tab 12 = .ok (.istore_n 1, 1) := by decide +kernel
theorem dX1_tab_13 : decode cX1_tab 13 = .ok (.aload_n 0, 1) := by decide +kernel
theorem dX1_tab_14 : decode cX1_tab 14 = .ok (.getfield 9, 3) := by decide +kernel
theorem dX1_tab_17 : decode cX1_tab 17 = .ok (.getfield 150, 3) := by decide +kernel
theorem dX1_tab_20 : decode cX1_tab 20 = .ok (.iconst 1, 1) := by decide +kernel
theorem dX1_tab_21 : decode cX1_tab 21 = .ok (.isub, 1) := by decide +kernel
theorem dX1_tab_22 : decode cX1_tab 22 = .ok (.istore_n 2, 1) := by decide +kernel
theorem dX1_tab_23 : decode cX1_tab 23 = .ok (.iload_n 2, 1) := by decide +kernel
theorem dX1_tab_24 : decode cX1_tab 24 = .ok (.aload_n 0, 1) := by decide +kernel
theorem dX1_tab_25 : decode cX1_tab 25 = .ok (.getfield 38, 3) := by decide +kernel
theorem dX1_tab_28 : decode cX1_tab 28 = .ok (.if_icmp .lt 29, 3) := by decide +kernel
theorem dX1_tab_31 : decode cX1_tab 31 = .ok (.aload_n 0, 1) := by decide +kernel
theorem dX1_tab_32 : decode cX1_tab 32 = .ok (.getfield 9, 3) := by decide +kernel
theorem dX1_tab_35 : decode cX1_tab 35 = .ok (.iload_n 2, 1) := by decide +kernel
theorem dX1_tab_36 : decode cX1_tab 36 = .ok (.invokevirtual 160, 3) := by decide +kernel
theorem dX1_tab_39 : decode cX1_tab 39 = .ok (.ifCond .eq 12, 3) := by decide +kernel
theorem dX1_tab_42 : decode cX1_tab 42 = .ok (.aload_n 0, 1) := by decide +kernel
theorem dX1_tab_43 : decode cX1_tab 43 = .ok (.getfield 9, 3) := by decide +kernel
theorem dX1_tab_46 : decode cX1_tab 46 = .ok (.iload_n 2, 1) := by decide +kernel
theorem dX1_tab_47 : decode cX1_tab 47 = .ok (.invokevirtual 147, 3) := by decide +kernel
theorem dX1_tab_50 : decode cX1_tab 50 = .ok (.istore_n 1, 1) := by decide +kernel
theorem dX1_tab_51 : decode cX1_tab 51 = .ok (.iinc 2 (-1), 3) := by decide +kernel
theorem dX1_tab_54 : decode cX1_tab 54 = .ok (.goto (-31), 3) := by decide +kernel
theorem dX1_tab_57 : decode cX1_tab 57 = .ok (.aload_n 0, 1) := by decide +kernel
theorem dX1_tab_58 : decode cX1_tab 58 = .ok (.iload_n 1, 1) := by decide +kernel
theorem dX1_tab_59 : decode cX1_tab 59 = .ok (.putfield 38, 3) := by decide +kernel
theorem dX1_tab_62 : decode cX1_tab 62 = .ok (.return_, 1) := by decide +kernel
set_option maxRecDepth 20000 in
theorem ggX1_emptyUpToAttribute_X3_get : GoodIn wsX1_emptyUpToAttribute wsX3_get := goodIn_r _ [8, 9, 25, 26, 27, 28, 29, 30, 31, 32] (by decide +kernel) (by decide +kernel)
set_option maxRecDepth 20000 in
theorem gX1_emptyUpToAttribute_X3_get : GoodIn wsX1_emptyUpToAttribute (wsV RX1 156 RX3 yX3_get wsX3_get) := goodIn_app (goodIn_of _ (by decide +kernel)) ggX1_emptyUpToAttribute_X3_get
set_option maxRecDepth 20000 in
theorem ggX1_emptyUpToAttribute_X3_put : GoodIn wsX1_emptyUpToAttribute wsX3_put := goodIn_r _ [13, 9, 14, 25, 26, 27, 28, 29, 30, 31, 32] (by decide +kernel) (by decide +kernel)
set_option maxRecDepth 20000 in
theorem gX1_emptyUpToAttribute_X3_put : GoodIn wsX1_emptyUpToAttribute (wsV RX1 143 RX3 yX3_put wsX3_put) := goodIn_app (goodIn_of _ (by decide +kernel)) ggX1_emptyUpToAttribute_X3_put
theorem dX1_emptyUpToAttribute_0 : decode cX1_emptyUpToAttribute 0 = .ok (.aload_n 0, 1) := by decide +kernel
theorem dX1_emptyUpToAttribute_1 : decode cX1_emptyUpToAttribute 1 = .ok (.getfield 38, 3) := by decide +kernel
theorem dX1_emptyUpToAttribute_4 : decode cX1_emptyUpToAttribute 4 = .ok (.istore_n 1, 1) := by decide +kernel
theorem dX1_emptyUpToAttribute_5 : decode cX1_emptyUpToAttribute 5 = .ok (.iload_n 1, 1) := by decide +kernel
theorem dX1_emptyUpToAttribute_6 : decode cX1_emptyUpToAttribute 6 = .ok (.aload_n 0, 1) := by decide +kernel
theorem dX1_emptyUpToAttribute_7 : decode cX1_emptyUpToAttribute 7 = .ok (.getfield 9, 3) := by decide +kernel
theorem dX1_emptyUpToAttribute_10 : decode cX1_emptyUpToAttribute 10 = .ok (.getfield 150, 3) := by decide +kernel
theorem dX1_emptyUpToAttribute_13 : decode cX1_emptyUpToAttribute 13 = .ok (.if_icmp .ge 32, 3) := by decide +kernel
theorem dX1_emptyUpToAttribute_16 : decode cX1_emptyUpToAttribute 16 = .ok (.aload_n 0, 1) := by decide +kernel
theorem dX1_emptyUpToAttribute_17 : decode cX1_emptyUpToAttribute 17 = .ok (.getfield 9, 3) := by decide +kernel
theorem dX1_emptyUpToAttribute_20 : decode cX1_emptyUpToAttribute 20 = .ok (.iload_n 1, 1) := by decide +kernel
theorem dX1_emptyUpToAttribute_21 : decode cX1_emptyUpToAttribute 21 = .ok (.invokevirtual 156, 3) := by decide +kernel
theorem dX1_emptyUpToAttribute_24 : decode cX1_emptyUpToAttribute 24 = .ok (.sipush 256, 3) := by decide +kernel
theorem dX1_emptyUpToAttribute_27 : decode cX1_emptyUpToAttribute 27 = .ok (.if_icmp .ge 18, 3) := by decide +kernel
theorem dX1_emptyUpToAttribute_30 : decode cX1_emptyUpToAttribute 30 = .ok (.aload_n 0, 1) := by decide +kernel
theorem dX1_emptyUpToAttribute_31 : decode cX1_emptyUpToAttribute 31 = .ok (.getfield 9, 3) := by decide +kernel
theorem dX1_emptyUpToAttribute_34 : decode cX1_emptyUpToAttribute 34 = .ok (.iload_n 1, 1) := by decide +kernel
theorem dX1_emptyUpToAttribute_35 : decode cX1_emptyUpToAttribute 35 = .ok (.iconst 0, 1) := by decide +kernel
theorem dX1_emptyUpToAttribute_36 : decode cX1_emptyUpToAttribute 36 = .ok (.invokevirtual 143, 3) := by decide +kernel
theorem dX1_emptyUpToAttribute_39 : decode cX1_emptyUpToAttribute 39 = .ok (.iinc 1 1, 3) := by decide +kernel
theorem dX1_emptyUpToAttribute_42 : decode cX1_emptyUpToAttribute 42 = .ok (.goto (-37), 3) := by decide +kernel
theorem dX1_emptyUpToAttribute_45 : decode cX1_emptyUpToAttribute 45 = .ok (.return_, 1) := by decide +kernel
set_option maxRecDepth 20000 in
theorem ggX1_repeatToAddress_X1_takeAddress : GoodIn wsX1_repeatToAddress wsX1_takeAddress := goodIn_r _ [7, 1, 8, 9, 10, 11, 6, 12, 13, 14, 15, 16, 17, 18, 19, 20, 21, 45, 46, 47, 48, 49, 50, 51, 52, 53, 54, 55, 56, 57, 58, 59, 60, 61, 62, 63, 64] (by decide +kernel) (by decide +kernel)
set_option maxRecDepth 20000 in
theorem gX1_repeatToAddress_X1_takeAddress : GoodIn wsX1_repeatToAddress (wsV RX1 153 RX1 yX1_takeAddress wsX1_takeAddress) := goodIn_app (goodIn_of _ (by decide +kernel)) ggX1_repeatToAddress_X1_takeAddress
set_option maxRecDepth 20000 in
theorem ggX1_repeatToAddress_X1_take : GoodIn wsX1_repeatToAddress wsX1_take := goodIn_r _ [12, 13, 14, 15, 16, 17, 18, 19, 20, 21, 45, 46, 47, 48, 49, 50, 51, 52, 53, 54, 63, 64] (by decide +kernel) (by decide +kernel)
set_option maxRecDepth 20000 in
theorem gX1_repeatToAddress_X1_take : GoodIn wsX1_repeatToAddress (wsV RX1 60 RX1 yX1_take wsX1_take) := goodIn_app (goodIn_of _ (by decide +kernel)) ggX1_repeatToAddress_X1_take
set_option maxRecDepth 20000 in
theorem ggX1_repeatToAddress_X1_isSign : GoodIn wsX1_repeatToAddress wsX1_isSign := goodIn_r _ [24] (by decide +kernel) (by decide +kernel)
set_option maxRecDepth 20000 in
theorem gX1_repeatToAddress_X1_isSign : GoodIn wsX1_repeatToAddress (va_wsS RX1 109 yX1_isSign wsX1_isSign) := goodIn_app (goodIn_of _ (by decide +kernel)) ggX1_repeatToAddress_X1_isSign
set_option maxRecDepth 20000 in
theorem ggX1_repeatToAddress_X3_stepsTo : GoodIn wsX1_repeatToAddress wsX3_stepsTo := goodIn_r _ [29, 30, 55, 56, 57, 58, 59, 60, 61, 62] (by decide +kernel) (by decide +kernel)
set_option maxRecDepth 20000 in
theorem gX1_repeatToAddress_X3_stepsTo : GoodIn wsX1_repeatToAddress (wsV RX1 163 RX3 yX3_stepsTo wsX3_stepsTo) := goodIn_app (goodIn_of _ (by decide +kernel)) ggX1_repeatToAddress_X3_stepsTo
set_option maxRecDepth 20000 in
theorem ggX1_repeatToAddress_X3_fill : GoodIn wsX1_repeatToAddress wsX3_fill := goodIn_r _ [34, 35, 36, 37, 28, 38, 39, 40, 41, 42, 43, 44, 30, 55, 56, 57, 58, 59, 60, 61, 62] (by decide +kernel) (by decide +kernel)
set_option maxRecDepth 20000 in
theorem gX1_repeatToAddress_X3_fill : GoodIn wsX1_repeatToAddress (wsV RX1 167 RX3 yX3_fill wsX3_fill) := goodIn_app (goodIn_of _ (by decide +kernel)) ggX1_repeatToAddress_X3_fill
theorem dX1_repeatToAddress_0 : decode cX1_repeatToAddress 0 = .ok (.aload_n 0, 1) := by decide +kernel
theorem dX1_repeatToAddress_1 : decode cX1_repeatToAddress 1 = .ok (.invokevirtual 153, 3) := by decide +kernel
theorem dX1_repeatToAddress_4 : decode cX1_repeatToAddress 4 = .ok (.istore_n 1, 1) := by decide +kernel
theorem dX1_repeatToAddress_5 : decode cX1_repeatToAddress 5 = .ok (.aload_n 0, 1) := by decide +kernel
theorem dX1_repeatToAddress_6 : decode cX1_repeatToAddress 6 = .ok (.invokevirtual 60, 3) := by decide +kernel
theorem dX1_repeatToAddress_9 : decode cX1_repeatToAddress 9 = .ok (.istore_n 2, 1) := by decide +kernel
theorem dX1_repeatToAddress_10 : decode cX1_repeatToAddress 10 = .ok (.iload_n 1, 1) := by decide +kernel
theorem dX1_repeatToAddress_11 : decode cX1_repeatToAddress 11 = .ok (.iconst (-1), 1) := by decide +kernel
theorem dX1_repeatToAddress_12 : decode cX1_repeatToAddress 12 = .ok (.if_icmp .eq 10, 3) := by decide +kernel
theorem dX1_repeatToAddress_15 : decode cX1_repeatToAddress 15 = .ok (.iload_n 2, 1) := by decide +kernel
theorem dX1_repeatToAddress_16 : decode cX1_repeatToAddress 16 = .ok (.invokestatic 109, 3) := by decide +kernel
theorem dX1_repeatToAddress_19 : decode cX1_repeatToAddress 19 = .ok (.ifCond .ne 5, 3) := by decide +kernel
theorem dX1_repeatToAddress_22 : decode cX1_repeatToAddress 22 = .ok (.iconst 0, 1) := by decide +kernel
theorem dX1_repeatToAddress_23 : decode cX1_repeatToAddress 23 = .ok (.ireturn, 1) := by decide +kernel
theorem dX1_repeatToAddress_24 : decode cX1_repeatToAddress 24 = .ok (.aload_n 0, 1) := by decide +kernel
theorem dX1_repeatToAddress_25 : decode cX1_repeatToAddress 25 = .ok (.getfield 9, 3) := by decide +kernel
theorem dX1_repeatToAddress_28 : decode cX1_repeatToAddress 28 = .ok (.aload_n 0, 1) := by decide +kernel
theorem dX1_repeatToAddress_29 : decode cX1_repeatToAddress 29 = .ok (.getfield 38, 3) := by decide +kernel
theorem dX1_repeatToAddress_32 : decode cX1_repeatToAddress 32 = .ok (.aload_n 0, 1) := by decide +kernel
theorem dX1_repeatToAddress_33 : decode cX1_repeatToAddress 33 = .ok (.getfield 9, 3) := by decide +kernel
theorem dX1_repeatToAddress_36 : decode cX1_repeatToAddress 36 = .ok (.aload_n 0, 1) := by decide +kernel
theorem dX1_repeatToAddress_37 : decode cX1_repeatToAddress 37 = .ok (.getfield 38, 3) := by decide +kernel
theorem dX1_repeatToAddress_40 : decode cX1_repeatToAddress 40 = .ok (.iload_n 1, 1) := by decide +kernel
theorem dX1_repeatToAddress_41 : decode cX1_repeatToAddress 41 = .ok (.invokevirtual 163, 3) := by decide +kernel
theorem dX1_repeatToAddress_44 : decode cX1_repeatToAddress 44 = .ok (.iload_n 2, 1) := by decide +kernel
theorem dX1_repeatToAddress_45 : decode cX1_repeatToAddress 45 = .ok (.invokevirtual 167, 3) := by decide +kernel
theorem dX1_repeatToAddress_48 : decode cX1_repeatToAddress 48 = .ok (.aload_n 0, 1) := by decide +kernel
theorem dX1_repeatToAddress_49 : decode cX1_repeatToAddress 49 = .ok (.iload_n 1, 1) := by decide +kernel
theorem dX1_repeatToAddress_50 : decode cX1_repeatToAddress 50 = .ok (.putfield 38, 3) := by decide +kernel
theorem dX1_repeatToAddress_53 : decode cX1_repeatToAddress 53 = .ok (.iconst 1, 1) := by decide +kernel
theorem dX1_repeatToAddress_54 : decode cX1_repeatToAddress 54 = .ok (.ireturn, 1) := by decide +kernel
set_option maxRecDepth 20000 in
theorem ggX1_eraseToAddress_X1_takeAddress : GoodIn wsX1_eraseToAddress wsX1_takeAddress := goodIn_r _ [7, 1, 8, 9, 10, 11, 6, 12, 13, 14, 15, 16, 17, 18, 19, 20, 21, 58, 59, 60, 61, 62, 63, 64, 65, 66, 67, 68, 69, 70, 71, 72, 73, 74, 75, 76, 77] (by decide +kernel) (by decide +kernel)
set_option maxRecDepth 20000 in
theorem gX1_eraseToAddress_X1_takeAddress : GoodIn wsX1_eraseToAddress (wsV RX1 153 RX1 yX1_takeAddress wsX1_takeAddress) := goodIn_app (goodIn_of _ (by decide +kernel)) ggX1_eraseToAddress_X1_takeAddress
set_option maxRecDepth 20000 in
theorem ggX1_eraseToAddress_X3_stepsTo : GoodIn wsX1_eraseToAddress wsX3_stepsTo := goodIn_r _ [26, 27, 68, 69, 70, 71, 72, 73, 74, 75] (by decide +kernel) (by decide +kernel)
set_option maxRecDepth 20000 in
theorem gX1_eraseToAddress_X3_stepsTo : GoodIn wsX1_eraseToAddress (wsV RX1 163 RX3 yX3_stepsTo wsX3_stepsTo) := goodIn_app (goodIn_of _ (by decide +kernel)) ggX1_eraseToAddress_X3_stepsTo
set_option maxRecDepth 20000 in
theorem ggX1_eraseToAddress_X3_emptyOpenCells : GoodIn wsX1_eraseToAddress wsX3_emptyOpenCells := goodIn_r _ [31, 32, 33, 34, 25, 35, 36, 27, 37, 38, 39, 40, 41, 42, 43, 44, 45, 46, 47, 48, 49, 50, 51, 52, 53, 54, 55, 56, 57, 68, 69, 70, 71, 72, 73, 74, 75] (by decide +kernel) (by decide +kernel)
set_option maxRecDepth 20000 in
theorem gX1_eraseToAddress_X3_emptyOpenCells : GoodIn wsX1_eraseToAddress (wsV RX1 171 RX3 yX3_emptyOpenCells wsX3_emptyOpenCells) := goodIn_app (goodIn_of _ (by decide +kernel)) ggX1_eraseToAddress_X3_emptyOpenCells
theorem dX1_eraseToAddress_0 : decode cX1_eraseToAddress 0 = .ok (.aload_n 0, 1) := by decide +kernel
theorem dX1_eraseToAddress_1 : decode cX1_eraseToAddress 1 = .ok (.invokevirtual 153, 3) := by decide +kernel
theorem dX1_eraseToAddress_4 : decode cX1_eraseToAddress 4 = .ok (.istore_n 1, 1) := by decide +kernel
theorem dX1_eraseToAddress_5 : decode cX1_eraseToAddress 5 = .ok (.iload_n 1, 1) := by decide +kernel
theorem dX1_eraseToAddress_6 : decode cX1_eraseToAddress 6 = .ok (.iconst (-1), 1) := by decide +kernel
theorem dX1_eraseToAddress_7 : decode cX1_eraseToAddress 7 = .ok (.if_icmp .ne 5, 3) := by decide +kernel
theorem dX1_eraseToAddress_10 : decode cX1_eraseToAddress 10 = .ok (.iconst 0, 1) := by decide +kernel
theorem dX1_eraseToAddress_11 : decode cX1_eraseToAddress 11 = .ok (.ireturn, 1) := by decide +kernel
theorem dX1_eraseToAddress_12 : decode cX1_eraseToAddress 12 = .ok (.aload_n 0, 1) := by decide +kernel
theorem dX1_eraseToAddress_13 : decode cX1_eraseToAddress 13 = .ok (.getfield 9, 3) := by decide +kernel
theorem dX1_eraseToAddress_16 : decode cX1_eraseToAddress 16 = .ok (.aload_n 0, 1) := by decide +kernel
theorem dX1_eraseToAddress_17 : decode cX1_eraseToAddress 17 = .ok (.getfield 38, 3) := by decide +kernel
theorem dX1_eraseToAddress_20 : decode cX1_eraseToAddress 20 = .ok (.aload_n 0, 1) := by decide +kernel
theorem dX1_eraseToAddress_21 : decode cX1_eraseToAddress 21 = .ok (.getfield 9, 3) := by decide +kernel
theorem dX1_eraseToAddress_24 : decode cX1_eraseToAddress 24 = .ok (.aload_n 0, 1) := by decide +kernel
theorem dX1_eraseToAddress_25 : decode cX1_eraseToAddress 25 = .ok (.getfield 38, 3) := by decide +kernel
theorem dX1_eraseToAddress_28 : decode cX1_eraseToAddress 28 = .ok (.iload_n 1, 1) := by decide +kernel
theorem dX1_eraseToAddress_29 : decode cX1_eraseToAddress 29 = .ok (.invokevirtual 163, 3) := by decide +kernel
theorem dX1_eraseToAddress_32 : decode cX1_eraseToAddress 32 = .ok (.invokevirtual 171, 3) := by decide +kernel
theorem dX1_eraseToAddress_35 : decode cX1_eraseToAddress 35 = .ok (.aload_n 0, 1) := by decide +kernel
theorem dX1_eraseToAddress_36 : decode cX1_eraseToAddress 36 = .ok (.iload_n 1, 1) := by decide +kernel
theorem dX1_eraseToAddress_37 : decode cX1_eraseToAddress 37 = .ok (.putfield 38, 3) := by decide +kernel
theorem dX1_eraseToAddress_40 : decode cX1_eraseToAddress 40 = .ok (.iconst 1, 1) := by decide +kernel
theorem dX1_eraseToAddress_41 : decode cX1_eraseToAddress 41 = .ok (.ireturn, 1) := by decide +kernel
set_option maxRecDepth 20000 in
theorem ggX1_putTakenSign_X1_take : GoodIn wsX1_putTakenSign wsX1_take := goodIn_r _ [5, 6, 7, 8, 9, 10, 11, 12, 13, 14, 36, 37, 38, 39, 40, 41, 42, 43, 44, 45, 46, 47] (by decide +kernel) (by decide +kernel)
set_option maxRecDepth 20000 in
theorem gX1_putTakenSign_X1_take : GoodIn wsX1_putTakenSign (wsV RX1 60 RX1 yX1_take wsX1_take) := goodIn_app (goodIn_of _ (by decide +kernel)) ggX1_putTakenSign_X1_take
set_option maxRecDepth 20000 in
theorem ggX1_putTakenSign_X1_isSign : GoodIn wsX1_putTakenSign wsX1_isSign := goodIn_r _ [17] (by decide +kernel) (by decide +kernel)
set_option maxRecDepth 20000 in
theorem gX1_putTakenSign_X1_isSign : GoodIn wsX1_putTakenSign (va_wsS RX1 109 yX1_isSign wsX1_isSign) := goodIn_app (goodIn_of _ (by decide +kernel)) ggX1_putTakenSign_X1_isSign
set_option maxRecDepth 20000 in
theorem ggX1_putTakenSign_X1_putAndGoOn : GoodIn wsX1_putTakenSign wsX1_putAndGoOn := goodIn_r _ [21, 22, 23, 24, 25, 26, 27, 28, 29, 30, 31, 32, 33, 34, 35, 36, 37, 38, 39, 40, 41, 42, 43, 44, 45, 48, 49, 50, 51, 52, 53, 54, 55] (by decide +kernel) (by decide +kernel)
set_option maxRecDepth 20000 in
theorem gX1_putTakenSign_X1_putAndGoOn : GoodIn wsX1_putTakenSign (wsV RX1 113 RX1 yX1_putAndGoOn wsX1_putAndGoOn) := goodIn_app (goodIn_of _ (by decide +kernel)) ggX1_putTakenSign_X1_putAndGoOn
theorem dX1_putTakenSign_0 : decode cX1_putTakenSign 0 = .ok (.aload_n 0, 1) := by decide +kernel
theorem dX1_putTakenSign_1 : decode cX1_putTakenSign 1 = .ok (.invokevirtual 60, 3) := by decide +kernel
theorem dX1_putTakenSign_4 : decode cX1_putTakenSign 4 = .ok (.istore_n 1, 1) := by decide +kernel
theorem dX1_putTakenSign_5 : decode cX1_putTakenSign 5 = .ok (.iload_n 1, 1) := by decide +kernel
theorem dX1_putTakenSign_6 : decode cX1_putTakenSign 6 = .ok (.invokestatic 109, 3) := by decide +kernel
theorem dX1_putTakenSign_9 : decode cX1_putTakenSign 9 = .ok (.ifCond .ne 5, 3) := by decide +kernel
theorem dX1_putTakenSign_12 : decode cX1_putTakenSign 12 = .ok (.iconst 0, 1) := by decide +kernel
theorem dX1_putTakenSign_13 : decode cX1_putTakenSign 13 = .ok (.ireturn, 1) := by decide +kernel
theorem dX1_putTakenSign_14 : decode cX1_putTakenSign 14 = .ok (.aload_n 0, 1) := by decide +kernel
theorem dX1_putTakenSign_15 : decode cX1_putTakenSign 15 = .ok (.iload_n 1, 1) := by decide +kernel
theorem dX1_putTakenSign_16 : decode cX1_putTakenSign 16 = .ok (.invokevirtual 113, 3) := by decide +kernel
theorem dX1_putTakenSign_19 : decode cX1_putTakenSign 19 = .ok (.iconst 1, 1) := by decide +kernel
theorem dX1_putTakenSign_20 : decode cX1_putTakenSign 20 = .ok (.ireturn, 1) := by decide +kernel
