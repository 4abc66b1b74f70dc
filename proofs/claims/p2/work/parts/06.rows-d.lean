set_option maxRecDepth 20000 in
theorem ggX6_init_X6_use : GoodIn wsX6_init wsX6_use := goodIn_r _ [16, 10, 17, 11, 18, 19, 20, 5, 21, 22, 23, 24, 25, 26, 27, 28, 29, 30, 31, 32, 33, 34, 35, 36, 37, 38, 39, 40, 41, 42, 43, 44, 45] (by decide +kernel) (by decide +kernel)
set_option maxRecDepth 20000 in
theorem gX6_init_X6_use : GoodIn wsX6_init (wsV RX6 33 RX6 yX6_use wsX6_use) := goodIn_app (goodIn_of _ (by decide +kernel)) ggX6_init_X6_use
theorem dX6_init_0 : decode cX6_init 0 = .ok (.aload_n 0, 1) := by decide +kernel
theorem dX6_init_1 : decode cX6_init 1 = .ok (.invokespecial 1, 3) := by decide +kernel
theorem dX6_init_4 : decode cX6_init 4 = .ok (.aload_n 0, 1) := by decide +kernel
theorem dX6_init_5 : decode cX6_init 5 = .ok (.sipush 5676, 3) := by decide +kernel
theorem dX6_init_8 : decode cX6_init 8 = .ok (.newarray .int, 2) := by decide +kernel
theorem dX6_init_10 : decode cX6_init 10 = .ok (.putfield 7, 3) := by decide +kernel
theorem dX6_init_13 : decode cX6_init 13 = .ok (.aload_n 0, 1) := by decide +kernel
theorem dX6_init_14 : decode cX6_init 14 = .ok (.iconst 1, 1) := by decide +kernel
theorem dX6_init_15 : decode cX6_init 15 = .ok (.putfield 13, 3) := by decide +kernel
theorem dX6_init_18 : decode cX6_init 18 = .ok (.aload_n 0, 1) := by decide +kernel
theorem dX6_init_19 : decode cX6_init 19 = .ok (.bipush 96, 2) := by decide +kernel
theorem dX6_init_21 : decode cX6_init 21 = .ok (.putfield 17, 3) := by decide +kernel
theorem dX6_init_24 : decode cX6_init 24 = .ok (.aload_n 0, 1) := by decide +kernel
theorem dX6_init_25 : decode cX6_init 25 = .ok (.sipush 8192, 3) := by decide +kernel
theorem dX6_init_28 : decode cX6_init 28 = .ok (.newarray .int, 2) := by decide +kernel
theorem dX6_init_30 : decode cX6_init 30 = .ok (.putfield 21, 3) := by decide +kernel
theorem dX6_init_33 : decode cX6_init 33 = .ok (.aload_n 0, 1) := by decide +kernel
theorem dX6_init_34 : decode cX6_init 34 = .ok (.sipush 23000, 3) := by decide +kernel
theorem dX6_init_37 : decode cX6_init 37 = .ok (.newarray .int, 2) := by decide +kernel
theorem dX6_init_39 : decode cX6_init 39 = .ok (.putfield 24, 3) := by decide +kernel
theorem dX6_init_42 : decode cX6_init 42 = .ok (.aload_n 0, 1) := by decide +kernel
theorem dX6_init_43 : decode cX6_init 43 = .ok (.iload_n 1, 1) := by decide +kernel
theorem dX6_init_44 : decode cX6_init 44 = .ok (.iconst 1, 1) := by decide +kernel
theorem dX6_init_45 : decode cX6_init 45 = .ok (.if_icmp .ge 7, 3) := by decide +kernel
theorem dX6_init_48 : decode cX6_init 48 = .ok (.iconst 1, 1) := by decide +kernel
theorem dX6_init_49 : decode cX6_init 49 = .ok (.goto 15, 3) := by decide +kernel
theorem dX6_init_52 : decode cX6_init 52 = .ok (.iload_n 1, 1) := by decide +kernel
theorem dX6_init_53 : decode cX6_init 53 = .ok (.bipush 43, 2) := by decide +kernel
theorem dX6_init_55 : decode cX6_init 55 = .ok (.if_icmp .le 8, 3) := by decide +kernel
theorem dX6_init_58 : decode cX6_init 58 = .ok (.bipush 43, 2) := by decide +kernel
theorem dX6_init_60 : decode cX6_init 60 = .ok (.goto 4, 3) := by decide +kernel
theorem dX6_init_63 : decode cX6_init 63 = .ok (.iload_n 1, 1) := by decide +kernel
theorem dX6_init_64 : decode cX6_init 64 = .ok (.putfield 27, 3) := by decide +kernel
theorem dX6_init_67 : decode cX6_init 67 = .ok (.aload_n 0, 1) := by decide +kernel
theorem dX6_init_68 : decode cX6_init 68 = .ok (.iload_n 2, 1) := by decide +kernel
theorem dX6_init_69 : decode cX6_init 69 = .ok (.iconst 1, 1) := by decide +kernel
theorem dX6_init_70 : decode cX6_init 70 = .ok (.if_icmp .ge 7, 3) := by decide +kernel
theorem dX6_init_73 : decode cX6_init 73 = .ok (.iconst 1, 1) := by decide +kernel
theorem dX6_init_74 : decode cX6_init 74 = .ok (.goto 17, 3) := by decide +kernel
theorem dX6_init_77 : decode cX6_init 77 = .ok (.iload_n 2, 1) := by decide +kernel
theorem dX6_init_78 : decode cX6_init 78 = .ok (.sipush 132, 3) := by decide +kernel
theorem dX6_init_81 : decode cX6_init 81 = .ok (.if_icmp .le 9, 3) := by decide +kernel
theorem dX6_init_84 : decode cX6_init 84 = .ok (.sipush 132, 3) := by decide +kernel
theorem dX6_init_87 : decode cX6_init 87 = .ok (.goto 4, 3) := by decide +kernel
theorem dX6_init_90 : decode cX6_init 90 = .ok (.iload_n 2, 1) := by decide +kernel
theorem dX6_init_91 : decode cX6_init 91 = .ok (.putfield 30, 3) := by decide +kernel
theorem dX6_init_94 : decode cX6_init 94 = .ok (.aload_n 0, 1) := by decide +kernel
theorem dX6_init_95 : decode cX6_init 95 = .ok (.iconst 0, 1) := by decide +kernel
theorem dX6_init_96 : decode cX6_init 96 = .ok (.invokevirtual 33, 3) := by decide +kernel
theorem dX6_init_99 : decode cX6_init 99 = .ok (.return_, 1) := by decide +kernel
theorem dX6_use_0 : decode cX6_use 0 = .ok (.aload_n 0, 1) := by decide +kernel
theorem dX6_use_1 : decode cX6_use 1 = .ok (.iload_n 1, 1) := by decide +kernel
theorem dX6_use_2 : decode cX6_use 2 = .ok (.ifCond .eq 17, 3) := by decide +kernel
theorem dX6_use_5 : decode cX6_use 5 = .ok (.aload_n 0, 1) := by decide +kernel
theorem dX6_use_6 : decode cX6_use 6 = .ok (.getfield 27, 3) := by decide +kernel
theorem dX6_use_9 : decode cX6_use 9 = .ok (.bipush 24, 2) := by decide +kernel
theorem dX6_use_11 : decode cX6_use 11 = .ok (.if_icmp .le 8, 3) := by decide +kernel
theorem dX6_use_14 : decode cX6_use 14 = .ok (.bipush 24, 2) := by decide +kernel
theorem dX6_use_16 : decode cX6_use 16 = .ok (.goto 7, 3) := by decide +kernel
theorem dX6_use_19 : decode cX6_use 19 = .ok (.aload_n 0, 1) := by decide +kernel
theorem dX6_use_20 : decode cX6_use 20 = .ok (.getfield 27, 3) := by decide +kernel
theorem dX6_use_23 : decode cX6_use 23 = .ok (.putfield 40, 3) := by decide +kernel
theorem dX6_use_26 : decode cX6_use 26 = .ok (.aload_n 0, 1) := by decide +kernel
theorem dX6_use_27 : decode cX6_use 27 = .ok (.iload_n 1, 1) := by decide +kernel
theorem dX6_use_28 : decode cX6_use 28 = .ok (.ifCond .eq 17, 3) := by decide +kernel
theorem dX6_use_31 : decode cX6_use 31 = .ok (.aload_n 0, 1) := by decide +kernel
theorem dX6_use_32 : decode cX6_use 32 = .ok (.getfield 30, 3) := by decide +kernel
theorem dX6_use_35 : decode cX6_use 35 = .ok (.bipush 80, 2) := by decide +kernel
theorem dX6_use_37 : decode cX6_use 37 = .ok (.if_icmp .le 8, 3) := by decide +kernel
theorem dX6_use_40 : decode cX6_use 40 = .ok (.bipush 80, 2) := by decide +kernel
theorem dX6_use_42 : decode cX6_use 42 = .ok (.goto 7, 3) := by decide +kernel
theorem dX6_use_45 : decode cX6_use 45 = .ok (.aload_n 0, 1) := by decide +kernel
theorem dX6_use_46 : decode cX6_use 46 = .ok (.getfield 30, 3) := by decide +kernel
theorem dX6_use_49 : decode cX6_use 49 = .ok (.putfield 43, 3) := by decide +kernel
theorem dX6_use_52 : decode cX6_use 52 = .ok (.aload_n 0, 1) := by decide +kernel
theorem dX6_use_53 : decode cX6_use 53 = .ok (.aload_n 0, 1) := by decide +kernel
theorem dX6_use_54 : decode cX6_use 54 = .ok (.getfield 40, 3) := by decide +kernel
theorem dX6_use_57 : decode cX6_use 57 = .ok (.aload_n 0, 1) := by decide +kernel
theorem dX6_use_58 : decode cX6_use 58 = .ok (.getfield 43, 3) := by decide +kernel
theorem dX6_use_61 : decode cX6_use 61 = .ok (.imul, 1) := by decide +kernel
theorem dX6_use_62 : decode cX6_use 62 = .ok (.putfield 46, 3) := by decide +kernel
theorem dX6_use_65 : decode cX6_use 65 = .ok (.aload_n 0, 1) := by decide +kernel
theorem dX6_use_66 : decode cX6_use 66 = .ok (.iconst 0, 1) := by decide +kernel
theorem dX6_use_67 : decode cX6_use 67 = .ok (.putfield 49, 3) := by decide +kernel
theorem dX6_use_70 : decode cX6_use 70 = .ok (.iconst 0, 1) := by decide +kernel
theorem dX6_use_71 : decode cX6_use 71 = .ok (.istore_n 2, 1) := by decide +kernel
theorem dX6_use_72 : decode cX6_use 72 = .ok (.iload_n 2, 1) := by decide +kernel
theorem dX6_use_73 : decode cX6_use 73 = .ok (.aload_n 0, 1) := by decide +kernel
theorem dX6_use_74 : decode cX6_use 74 = .ok (.getfield 46, 3) := by decide +kernel
theorem dX6_use_77 : decode cX6_use 77 = .ok (.if_icmp .ge 16, 3) := by decide +kernel
theorem dX6_use_80 : decode cX6_use 80 = .ok (.aload_n 0, 1) := by decide +kernel
theorem dX6_use_81 : decode cX6_use 81 = .ok (.getfield 7, 3) := by decide +kernel
theorem dX6_use_84 : decode cX6_use 84 = .ok (.iload_n 2, 1) := by decide +kernel
theorem dX6_use_85 : decode cX6_use 85 = .ok (.iconst 0, 1) := by decide +kernel
theorem dX6_use_86 : decode cX6_use 86 = .ok (.iastore, 1) := by decide +kernel
theorem dX6_use_87 : decode cX6_use 87 = .ok (.iinc 2 1, 3) := by decide +kernel
theorem dX6_use_90 : decode cX6_use 90 = .ok (.goto (-18), 3) := by decide +kernel
theorem dX6_use_93 : decode cX6_use 93 = .ok (.return_, 1) := by decide +kernel
theorem dX6_round_0 : decode cX6_round 0 = .ok (.iload_n 1, 1) := by decide +kernel
theorem dX6_round_1 : decode cX6_round 1 = .ok (.aload_n 0, 1) := by decide +kernel
theorem dX6_round_2 : decode cX6_round 2 = .ok (.getfield 46, 3) := by decide +kernel
theorem dX6_round_5 : decode cX6_round 5 = .ok (.irem, 1) := by decide +kernel
theorem dX6_round_6 : decode cX6_round 6 = .ok (.aload_n 0, 1) := by decide +kernel
theorem dX6_round_7 : decode cX6_round 7 = .ok (.getfield 46, 3) := by decide +kernel
theorem dX6_round_10 : decode cX6_round 10 = .ok (.iadd, 1) := by decide +kernel
theorem dX6_round_11 : decode cX6_round 11 = .ok (.aload_n 0, 1) := by decide +kernel
theorem dX6_round_12 : decode cX6_round 12 = .ok (.getfield 46, 3) := by decide +kernel
theorem dX6_round_15 : decode cX6_round 15 = .ok (.irem, 1) := by decide +kernel
theorem dX6_round_16 : decode cX6_round 16 = .ok (.ireturn, 1) := by decide +kernel
theorem dX6_isAttribute_0 : decode cX6_isAttribute 0 = .ok (.aload_n 0, 1) := by decide +kernel
theorem dX6_isAttribute_1 : decode cX6_isAttribute 1 = .ok (.getfield 7, 3) := by decide +kernel
theorem dX6_isAttribute_4 : decode cX6_isAttribute 4 = .ok (.iload_n 1, 1) := by decide +kernel
theorem dX6_isAttribute_5 : decode cX6_isAttribute 5 = .ok (.iaload, 1) := by decide +kernel
theorem dX6_isAttribute_6 : decode cX6_isAttribute 6 = .ok (.sipush 256, 3) := by decide +kernel
theorem dX6_isAttribute_9 : decode cX6_isAttribute 9 = .ok (.if_icmp .lt 7, 3) := by decide +kernel
theorem dX6_isAttribute_12 : decode cX6_isAttribute 12 = .ok (.iconst 1, 1) := by decide +kernel
theorem dX6_isAttribute_13 : decode cX6_isAttribute 13 = .ok (.goto 4, 3) := by decide +kernel
theorem dX6_isAttribute_16 : decode cX6_isAttribute 16 = .ok (.iconst 0, 1) := by decide +kernel
theorem dX6_isAttribute_17 : decode cX6_isAttribute 17 = .ok (.ireturn, 1) := by decide +kernel
set_option maxRecDepth 20000 in
theorem ggX6_home_X6_round : GoodIn wsX6_home wsX6_round := goodIn_r _ [6, 1, 12, 13, 14, 15, 16, 17, 18, 19, 20, 21, 22, 23, 24, 25, 26, 27, 28, 29, 30, 31, 32, 33, 34, 35, 36] (by decide +kernel) (by decide +kernel)
set_option maxRecDepth 20000 in
theorem gX6_home_X6_round : GoodIn wsX6_home (wsV RX6 52 RX6 yX6_round wsX6_round) := goodIn_app (goodIn_of _ (by decide +kernel)) ggX6_home_X6_round
set_option maxRecDepth 20000 in
theorem ggX6_home_X6_isAttribute : GoodIn wsX6_home wsX6_isAttribute := goodIn_r _ [10, 11, 12, 13, 14, 15, 16, 17, 18, 19, 20, 21, 22, 23, 24, 25, 26, 27, 28, 29, 30, 31, 32, 33, 34, 35, 36] (by decide +kernel) (by decide +kernel)
set_option maxRecDepth 20000 in
theorem gX6_home_X6_isAttribute : GoodIn wsX6_home (wsV RX6 56 RX6 yX6_isAttribute wsX6_isAttribute) := goodIn_app (goodIn_of _ (by decide +kernel)) ggX6_home_X6_isAttribute
theorem dX6_home_0 : decode cX6_home 0 = .ok (.iconst 0, 1) := by decide +kernel
theorem dX6_home_1 : decode cX6_home 1 = .ok (.istore_n 2, 1) := by decide +kernel
theorem dX6_home_2 : decode cX6_home 2 = .ok (.iload_n 2, 1) := by decide +kernel
theorem dX6_home_3 : decode cX6_home 3 = .ok (.aload_n 0, 1) := by decide +kernel
theorem dX6_home_4 : decode cX6_home 4 = .ok (.getfield 46, 3) := by decide +kernel
theorem dX6_home_7 : decode cX6_home 7 = .ok (.if_icmp .ge 31, 3) := by decide +kernel
theorem dX6_home_10 : decode cX6_home 10 = .ok (.aload_n 0, 1) := by decide +kernel
theorem dX6_home_11 : decode cX6_home 11 = .ok (.aload_n 0, 1) := by decide +kernel
theorem dX6_home_12 : decode cX6_home 12 = .ok (.iload_n 1, 1) := by decide +kernel
theorem dX6_home_13 : decode cX6_home 13 = .ok (.iload_n 2, 1) := by decide +kernel
theorem dX6_home_14 : decode cX6_home 14 = .ok (.isub, 1) := by decide +kernel
theorem dX6_home_15 : decode cX6_home 15 = .ok (.invokevirtual 52, 3) := by decide +kernel
theorem dX6_home_18 : decode cX6_home 18 = .ok (.invokevirtual 56, 3) := by decide +kernel
theorem dX6_home_21 : decode cX6_home 21 = .ok (.ifCond .eq 11, 3) := by decide +kernel
theorem dX6_home_24 : decode cX6_home 24 = .ok (.aload_n 0, 1) := by decide +kernel
theorem dX6_home_25 : decode cX6_home 25 = .ok (.iload_n 1, 1) := by decide +kernel
theorem dX6_home_26 : decode cX6_home 26 = .ok (.iload_n 2, 1) := by decide +kernel
theorem dX6_home_27 : decode cX6_home 27 = .ok (.isub, 1) := by decide +kernel
theorem dX6_home_28 : decode cX6_home 28 = .ok (.invokevirtual 52, 3) := by decide +kernel
theorem dX6_home_31 : decode cX6_home 31 = .ok (.ireturn, 1) := by decide +kernel
theorem dX6_home_32 : decode cX6_home 32 = .ok (.iinc 2 1, 3) := by decide +kernel
theorem dX6_home_35 : decode cX6_home 35 = .ok (.goto (-33), 3) := by decide +kernel
theorem dX6_home_38 : decode cX6_home 38 = .ok (.iconst (-1), 1) := by decide +kernel
theorem dX6_home_39 : decode cX6_home 39 = .ok (.ireturn, 1) := by decide +kernel
set_option maxRecDepth 20000 in
theorem ggX6_attributeOf_X6_home : GoodIn wsX6_attributeOf wsX6_home := goodIn_r _ [6, 7, 8, 9, 10, 5, 11, 12, 13, 14, 15, 1, 16, 17, 18, 19, 20, 21, 22, 23, 24, 25, 26, 27, 28, 29, 30, 31, 32, 33, 34, 35, 36, 37, 38, 39, 40] (by decide +kernel) (by decide +kernel)
set_option maxRecDepth 20000 in
theorem gX6_attributeOf_X6_home : GoodIn wsX6_attributeOf (wsV RX6 60 RX6 yX6_home wsX6_home) := goodIn_app (goodIn_of _ (by decide +kernel)) ggX6_attributeOf_X6_home
theorem dX6_attributeOf_0 : decode cX6_attributeOf 0 = .ok (.aload_n 0, 1) := by decide +kernel
theorem dX6_attributeOf_1 : decode cX6_attributeOf 1 = .ok (.iload_n 1, 1) := by decide +kernel
theorem dX6_attributeOf_2 : decode cX6_attributeOf 2 = .ok (.invokevirtual 60, 3) := by decide +kernel
theorem dX6_attributeOf_5 : decode cX6_attributeOf 5 = .ok (.istore_n 2, 1) := by decide +kernel
theorem dX6_attributeOf_6 : decode cX6_attributeOf 6 = .ok (.iload_n 2, 1) := by decide +kernel
theorem dX6_attributeOf_7 : decode cX6_attributeOf 7 = .ok (.iconst (-1), 1) := by decide +kernel
theorem dX6_attributeOf_8 : decode cX6_attributeOf 8 = .ok (.if_icmp .ne 7, 3) := by decide +kernel
theorem dX6_attributeOf_11 : decode cX6_attributeOf 11 = .ok (.iconst 0, 1) := by decide +kernel
theorem dX6_attributeOf_12 : decode cX6_attributeOf 12 = .ok (.goto 13, 3) := by decide +kernel
theorem dX6_attributeOf_15 : decode cX6_attributeOf 15 = .ok (.aload_n 0, 1) := by decide +kernel
theorem dX6_attributeOf_16 : decode cX6_attributeOf 16 = .ok (.getfield 7, 3) := by decide +kernel
theorem dX6_attributeOf_19 : decode cX6_attributeOf 19 = .ok (.iload_n 2, 1) := by decide +kernel
theorem dX6_attributeOf_20 : decode cX6_attributeOf 20 = .ok (.iaload, 1) := by decide +kernel
theorem dX6_attributeOf_21 : decode cX6_attributeOf 21 = .ok (.sipush 256, 3) := by decide +kernel
theorem dX6_attributeOf_24 : decode cX6_attributeOf 24 = .ok (.isub, 1) := by decide +kernel
theorem dX6_attributeOf_25 : decode cX6_attributeOf 25 = .ok (.ireturn, 1) := by decide +kernel
set_option maxRecDepth 20000 in
theorem ggX6_isProtected_X6_attributeOf : GoodIn wsX6_isProtected wsX6_attributeOf := goodIn_r _ [5, 6, 7, 8, 9, 4, 10, 11, 12, 13, 14, 15, 16, 17, 18, 19, 20, 21, 22, 23, 24, 25, 26, 27, 28, 29, 30, 31, 32, 33, 34, 35, 36, 37, 38, 39, 40, 41, 42, 43, 44] (by decide +kernel) (by decide +kernel)
set_option maxRecDepth 20000 in
theorem gX6_isProtected_X6_attributeOf : GoodIn wsX6_isProtected (wsV RX6 63 RX6 yX6_attributeOf wsX6_attributeOf) := goodIn_app (goodIn_of _ (by decide +kernel)) ggX6_isProtected_X6_attributeOf
theorem dX6_isProtected_0 : decode cX6_isProtected 0 = .ok (.aload_n 0, 1) := by decide +kernel
theorem dX6_isProtected_1 : decode cX6_isProtected 1 = .ok (.iload_n 1, 1) := by decide +kernel
theorem dX6_isProtected_2 : decode cX6_isProtected 2 = .ok (.invokevirtual 63, 3) := by decide +kernel
theorem dX6_isProtected_5 : decode cX6_isProtected 5 = .ok (.bipush 32, 2) := by decide +kernel
theorem dX6_isProtected_7 : decode cX6_isProtected 7 = .ok (.iand, 1) := by decide +kernel
theorem dX6_isProtected_8 : decode cX6_isProtected 8 = .ok (.ifCond .eq 7, 3) := by decide +kernel
theorem dX6_isProtected_11 : decode cX6_isProtected 11 = .ok (.iconst 1, 1) := by decide +kernel
theorem dX6_isProtected_12 : decode cX6_isProtected 12 = .ok (.goto 4, 3) := by decide +kernel
theorem dX6_isProtected_15 : decode cX6_isProtected 15 = .ok (.iconst 0, 1) := by decide +kernel
theorem dX6_isProtected_16 : decode cX6_isProtected 16 = .ok (.ireturn, 1) := by decide +kernel
set_option maxRecDepth 20000 in
theorem ggX6_mayBeTyped_X6_isAttribute : GoodIn wsX6_mayBeTyped wsX6_isAttribute := goodIn_r _ [5, 6, 24, 25, 26, 27, 28, 29, 30, 31, 32, 33, 34, 35, 36, 37, 38, 39, 40, 41, 42, 43, 44, 45, 46, 47, 48] (by decide +kernel) (by decide +kernel)
set_option maxRecDepth 20000 in
theorem gX6_mayBeTyped_X6_isAttribute : GoodIn wsX6_mayBeTyped (wsV RX6 56 RX6 yX6_isAttribute wsX6_isAttribute) := goodIn_app (goodIn_of _ (by decide +kernel)) ggX6_mayBeTyped_X6_isAttribute
set_option maxRecDepth 20000 in
theorem ggX6_mayBeTyped_X6_isProtected : GoodIn wsX6_mayBeTyped wsX6_isProtected := goodIn_r _ [10, 11, 12, 13, 4, 14, 6, 15, 16, 17, 18, 19, 20, 21, 22, 23, 1, 2, 3, 5, 24, 25, 26, 27, 28, 29, 30, 31, 32, 33, 34, 35, 36, 37, 38, 39, 40, 41, 42, 43, 44, 45, 46, 47, 48] (by decide +kernel) (by decide +kernel)
set_option maxRecDepth 20000 in
theorem gX6_mayBeTyped_X6_isProtected : GoodIn wsX6_mayBeTyped (wsV RX6 66 RX6 yX6_isProtected wsX6_isProtected) := goodIn_app (goodIn_of _ (by decide +kernel)) ggX6_mayBeTyped_X6_isProtected
theorem dX6_mayBeTyped_0 : decode cX6_mayBeTyped 0 = .ok (.aload_n 0, 1) := by decide +kernel
theorem dX6_mayBeTyped_1 : decode cX6_mayBeTyped 1 = .ok (.iload_n 1, 1) := by decide +kernel
theorem dX6_mayBeTyped_2 : decode cX6_mayBeTyped 2 = .ok (.invokevirtual 56, 3) := by decide +kernel
theorem dX6_mayBeTyped_5 : decode cX6_mayBeTyped 5 = .ok (.ifCond .ne 15, 3) := by decide +kernel
theorem dX6_mayBeTyped_8 : decode cX6_mayBeTyped 8 = .ok (.aload_n 0, 1) := by decide +kernel
theorem dX6_mayBeTyped_9 : decode cX6_mayBeTyped 9 = .ok (.iload_n 1, 1) := by decide +kernel
theorem dX6_mayBeTyped_10 : decode cX6_mayBeTyped 10 = .ok (.invokevirtual 66, 3) := by decide +kernel
theorem dX6_mayBeTyped_13 : decode cX6_mayBeTyped 13 = .ok (.ifCond .ne 7, 3) := by decide +kernel
theorem dX6_mayBeTyped_16 : decode cX6_mayBeTyped 16 = .ok (.iconst 1, 1) := by decide +kernel
theorem dX6_mayBeTyped_17 : decode cX6_mayBeTyped 17 = .ok (.goto 4, 3) := by decide +kernel
theorem dX6_mayBeTyped_20 : decode cX6_mayBeTyped 20 = .ok (.iconst 0, 1) := by decide +kernel
theorem dX6_mayBeTyped_21 : decode cX6_mayBeTyped 21 = .ok (.ireturn, 1) := by decide +kernel
set_option maxRecDepth 20000 in
theorem ggX6_modify_X6_home : GoodIn wsX6_modify wsX6_home := goodIn_r _ [6, 7, 8, 9, 10, 5, 11, 12, 13, 14, 15, 1, 16, 17, 18, 19, 20, 21, 22, 23, 24, 25, 26, 27, 28, 29, 30, 31, 32, 33, 34, 35, 36, 37, 38, 39, 40] (by decide +kernel) (by decide +kernel)
set_option maxRecDepth 20000 in
theorem gX6_modify_X6_home : GoodIn wsX6_modify (wsV RX6 60 RX6 yX6_home wsX6_home) := goodIn_app (goodIn_of _ (by decide +kernel)) ggX6_modify_X6_home
theorem dX6_modify_0 : decode cX6_modify 0 = .ok (.aload_n 0, 1) := by decide +kernel
theorem dX6_modify_1 : decode cX6_modify 1 = .ok (.iload_n 1, 1) := by decide +kernel
theorem dX6_modify_2 : decode cX6_modify 2 = .ok (.invokevirtual 60, 3) := by decide +kernel
theorem dX6_modify_5 : decode cX6_modify 5 = .ok (.istore_n 2, 1) := by decide +kernel
theorem dX6_modify_6 : decode cX6_modify 6 = .ok (.iload_n 2, 1) := by decide +kernel
theorem dX6_modify_7 : decode cX6_modify 7 = .ok (.iconst (-1), 1) := by decide +kernel
theorem dX6_modify_8 : decode cX6_modify 8 = .ok (.if_icmp .eq 13, 3) := by decide +kernel
theorem dX6_modify_11 : decode cX6_modify 11 = .ok (.aload_n 0, 1) := by decide +kernel
theorem dX6_modify_12 : decode cX6_modify 12 = .ok (.getfield 7, 3) := by decide +kernel
theorem dX6_modify_15 : decode cX6_modify 15 = .ok (.iload_n 2, 1) := by decide +kernel
theorem dX6_modify_16 : decode cX6_modify 16 = .ok (.dup2, 1) := by decide +kernel
theorem dX6_modify_17 : decode cX6_modify 17 = .ok (.iaload, 1) := by decide +kernel
theorem dX6_modify_18 : decode cX6_modify 18 = .ok (.iconst 1, 1) := by decide +kernel
theorem dX6_modify_19 : decode cX6_modify 19 = .ok (.ior, 1) := by decide +kernel
theorem dX6_modify_20 : decode cX6_modify 20 = .ok (.iastore, 1) := by decide +kernel
theorem dX6_modify_21 : decode cX6_modify 21 = .ok (.return_, 1) := by decide +kernel
set_option maxRecDepth 20000 in
theorem ggX6_fields_X6_isAttribute : GoodIn wsX6_fields wsX6_isAttribute := goodIn_r _ [6, 7, 8, 9, 10, 11, 12, 13, 14, 15, 16, 17, 18, 19, 20, 21, 22, 23, 24, 25, 26, 27, 28, 29, 30, 31, 32] (by decide +kernel) (by decide +kernel)
set_option maxRecDepth 20000 in
theorem gX6_fields_X6_isAttribute : GoodIn wsX6_fields (wsV RX6 56 RX6 yX6_isAttribute wsX6_isAttribute) := goodIn_app (goodIn_of _ (by decide +kernel)) ggX6_fields_X6_isAttribute
theorem dX6_fields_0 : decode cX6_fields 0 = .ok (.iconst 0, 1) := by decide +kernel
theorem dX6_fields_1 : decode cX6_fields 1 = .ok (.istore_n 1, 1) := by decide +kernel
theorem dX6_fields_2 : decode cX6_fields 2 = .ok (.iconst 0, 1) := by decide +kernel
theorem dX6_fields_3 : decode cX6_fields 3 = .ok (.istore_n 2, 1) := by decide +kernel
theorem dX6_fields_4 : decode cX6_fields 4 = .ok (.iload_n 2, 1) := by decide +kernel
theorem dX6_fields_5 : decode cX6_fields 5 = .ok (.aload_n 0, 1) := by decide +kernel
theorem dX6_fields_6 : decode cX6_fields 6 = .ok (.getfield 46, 3) := by decide +kernel
theorem dX6_fields_9 : decode cX6_fields 9 = .ok (.if_icmp .ge 20, 3) := by decide +kernel
theorem dX6_fields_12 : decode cX6_fields 12 = .ok (.aload_n 0, 1) := by decide +kernel
theorem dX6_fields_13 : decode cX6_fields 13 = .ok (.iload_n 2, 1) := by decide +kernel
theorem dX6_fields_14 : decode cX6_fields 14 = .ok (.invokevirtual 56, 3) := by decide +kernel
theorem dX6_fields_17 : decode cX6_fields 17 = .ok (.ifCond .eq 6, 3) := by decide +kernel
theorem dX6_fields_20 : decode cX6_fields 20 = .ok (.iinc 1 1, 3) := by decide +kernel
theorem dX6_fields_23 : decode cX6_fields 23 = .ok (.iinc 2 1, 3) := by decide +kernel
theorem dX6_fields_26 : decode cX6_fields 26 = .ok (.goto (-22), 3) := by decide +kernel
theorem dX6_fields_29 : decode cX6_fields 29 = .ok (.iload_n 1, 1) := by decide +kernel
theorem dX6_fields_30 : decode cX6_fields 30 = .ok (.ireturn, 1) := by decide +kernel
set_option maxRecDepth 20000 in
theorem ggX6_attributeAt_X6_isAttribute : GoodIn wsX6_attributeAt wsX6_isAttribute := goodIn_r _ [6, 7, 8, 9, 10, 11, 12, 13, 14, 15, 16, 17, 18, 19, 20, 21, 22, 23, 24, 25, 26, 27, 28, 29, 30, 31, 32] (by decide +kernel) (by decide +kernel)
set_option maxRecDepth 20000 in
theorem gX6_attributeAt_X6_isAttribute : GoodIn wsX6_attributeAt (wsV RX6 56 RX6 yX6_isAttribute wsX6_isAttribute) := goodIn_app (goodIn_of _ (by decide +kernel)) ggX6_attributeAt_X6_isAttribute
theorem dX6_attributeAt_0 : decode cX6_attributeAt 0 = .ok (.iconst 0, 1) := by decide +kernel
theorem dX6_attributeAt_1 : decode cX6_attributeAt 1 = .ok (.istore_n 2, 1) := by decide +kernel
theorem dX6_attributeAt_2 : decode cX6_attributeAt 2 = .ok (.iconst 0, 1) := by decide +kernel
theorem dX6_attributeAt_3 : decode cX6_attributeAt 3 = .ok (.istore_n 3, 1) := by decide +kernel
theorem dX6_attributeAt_4 : decode cX6_attributeAt 4 = .ok (.iload_n 3, 1) := by decide +kernel
theorem dX6_attributeAt_5 : decode cX6_attributeAt 5 = .ok (.aload_n 0, 1) := by decide +kernel
theorem dX6_attributeAt_6 : decode cX6_attributeAt 6 = .ok (.getfield 46, 3) := by decide +kernel
theorem dX6_attributeAt_9 : decode cX6_attributeAt 9 = .ok (.if_icmp .ge 27, 3) := by decide +kernel
theorem dX6_attributeAt_12 : decode cX6_attributeAt 12 = .ok (.aload_n 0, 1) := by decide +kernel
theorem dX6_attributeAt_13 : decode cX6_attributeAt 13 = .ok (.iload_n 3, 1) := by decide +kernel
theorem dX6_attributeAt_14 : decode cX6_attributeAt 14 = .ok (.invokevirtual 56, 3) := by decide +kernel
theorem dX6_attributeAt_17 : decode cX6_attributeAt 17 = .ok (.ifCond .eq 13, 3) := by decide +kernel
theorem dX6_attributeAt_20 : decode cX6_attributeAt 20 = .ok (.iload_n 2, 1) := by decide +kernel
theorem dX6_attributeAt_21 : decode cX6_attributeAt 21 = .ok (.iload_n 1, 1) := by decide +kernel
theorem dX6_attributeAt_22 : decode cX6_attributeAt 22 = .ok (.if_icmp .ne 5, 3) := by decide +kernel
theorem dX6_attributeAt_25 : decode cX6_attributeAt 25 = .ok (.iload_n 3, 1) := by decide +kernel
theorem dX6_attributeAt_26 : decode cX6_attributeAt 26 = .ok (.ireturn, 1) := by decide +kernel
theorem dX6_attributeAt_27 : decode cX6_attributeAt 27 = .ok (.iinc 2 1, 3) := by decide +kernel
theorem dX6_attributeAt_30 : decode cX6_attributeAt 30 = .ok (.iinc 3 1, 3) := by decide +kernel
theorem dX6_attributeAt_33 : decode cX6_attributeAt 33 = .ok (.goto (-29), 3) := by decide +kernel
theorem dX6_attributeAt_36 : decode cX6_attributeAt 36 = .ok (.iconst (-1), 1) := by decide +kernel
theorem dX6_attributeAt_37 : decode cX6_attributeAt 37 = .ok (.ireturn, 1) := by decide +kernel
set_option maxRecDepth 20000 in
theorem ggX6_toEnd_X6_fields : GoodIn wsX6_toEnd wsX6_fields := goodIn_r _ [6, 1, 7, 8, 9, 5, 10, 11, 16, 17, 18, 19, 20, 21, 22, 23, 24, 25, 26, 27, 28, 29, 30, 31, 32, 33, 34, 35, 36, 37, 38, 39, 40] (by decide +kernel) (by decide +kernel)
set_option maxRecDepth 20000 in
theorem gX6_toEnd_X6_fields : GoodIn wsX6_toEnd (wsV RX6 69 RX6 yX6_fields wsX6_fields) := goodIn_app (goodIn_of _ (by decide +kernel)) ggX6_toEnd_X6_fields
set_option maxRecDepth 20000 in
theorem ggX6_toEnd_X6_round : GoodIn wsX6_toEnd wsX6_round := goodIn_r _ [15, 1, 16, 17, 18, 19, 20, 21, 22, 23, 24, 25, 26, 27, 28, 29, 30, 31, 32, 33, 34, 35, 36, 37, 38, 39, 40] (by decide +kernel) (by decide +kernel)
set_option maxRecDepth 20000 in
theorem gX6_toEnd_X6_round : GoodIn wsX6_toEnd (wsV RX6 52 RX6 yX6_round wsX6_round) := goodIn_app (goodIn_of _ (by decide +kernel)) ggX6_toEnd_X6_round
set_option maxRecDepth 20000 in
theorem ggX6_toEnd_X6_isAttribute : GoodIn wsX6_toEnd wsX6_isAttribute := goodIn_r _ [10, 11, 16, 17, 18, 19, 20, 21, 22, 23, 24, 25, 26, 27, 28, 29, 30, 31, 32, 33, 34, 35, 36, 37, 38, 39, 40] (by decide +kernel) (by decide +kernel)
set_option maxRecDepth 20000 in
theorem gX6_toEnd_X6_isAttribute : GoodIn wsX6_toEnd (wsV RX6 56 RX6 yX6_isAttribute wsX6_isAttribute) := goodIn_app (goodIn_of _ (by decide +kernel)) ggX6_toEnd_X6_isAttribute
theorem dX6_toEnd_0 : decode cX6_toEnd 0 = .ok (.aload_n 0, 1) := by decide +kernel
theorem dX6_toEnd_1 : decode cX6_toEnd 1 = .ok (.invokevirtual 69, 3) := by decide +kernel
theorem dX6_toEnd_4 : decode cX6_toEnd 4 = .ok (.ifCond .ne 10, 3) := by decide +kernel
theorem dX6_toEnd_7 : decode cX6_toEnd 7 = .ok (.aload_n 0, 1) := by decide +kernel
theorem dX6_toEnd_8 : decode cX6_toEnd 8 = .ok (.getfield 46, 3) := by decide +kernel
theorem dX6_toEnd_11 : decode cX6_toEnd 11 = .ok (.iload_n 1, 1) := by decide +kernel
theorem dX6_toEnd_12 : decode cX6_toEnd 12 = .ok (.isub, 1) := by decide +kernel
theorem dX6_toEnd_13 : decode cX6_toEnd 13 = .ok (.ireturn, 1) := by decide +kernel
theorem dX6_toEnd_14 : decode cX6_toEnd 14 = .ok (.iconst 0, 1) := by decide +kernel
theorem dX6_toEnd_15 : decode cX6_toEnd 15 = .ok (.istore_n 2, 1) := by decide +kernel
theorem dX6_toEnd_16 : decode cX6_toEnd 16 = .ok (.aload_n 0, 1) := by decide +kernel
theorem dX6_toEnd_17 : decode cX6_toEnd 17 = .ok (.aload_n 0, 1) := by decide +kernel
theorem dX6_toEnd_18 : decode cX6_toEnd 18 = .ok (.iload_n 1, 1) := by decide +kernel
theorem dX6_toEnd_19 : decode cX6_toEnd 19 = .ok (.iload_n 2, 1) := by decide +kernel
theorem dX6_toEnd_20 : decode cX6_toEnd 20 = .ok (.iadd, 1) := by decide +kernel
theorem dX6_toEnd_21 : decode cX6_toEnd 21 = .ok (.invokevirtual 52, 3) := by decide +kernel
theorem dX6_toEnd_24 : decode cX6_toEnd 24 = .ok (.invokevirtual 56, 3) := by decide +kernel
theorem dX6_toEnd_27 : decode cX6_toEnd 27 = .ok (.ifCond .ne 9, 3) := by decide +kernel
theorem dX6_toEnd_30 : decode cX6_toEnd 30 = .ok (.iinc 2 1, 3) := by decide +kernel
theorem dX6_toEnd_33 : decode cX6_toEnd 33 = .ok (.goto (-17), 3) := by decide +kernel
theorem dX6_toEnd_36 : decode cX6_toEnd 36 = .ok (.iload_n 2, 1) := by decide +kernel
theorem dX6_toEnd_37 : decode cX6_toEnd 37 = .ok (.ireturn, 1) := by decide +kernel
theorem dX6_lock_0 : decode cX6_lock 0 = .ok (.aload_n 0, 1) := by decide +kernel
theorem dX6_lock_1 : decode cX6_lock 1 = .ok (.iconst 1, 1) := by decide +kernel
theorem dX6_lock_2 : decode cX6_lock 2 = .ok (.putfield 13, 3) := by decide +kernel
theorem dX6_lock_5 : decode cX6_lock 5 = .ok (.return_, 1) := by decide +kernel
theorem dX6_rejected_0 : decode cX6_rejected 0 = .ok (.aload_n 0, 1) := by decide +kernel
theorem dX6_rejected_1 : decode cX6_rejected 1 = .ok (.iconst 1, 1) := by decide +kernel
theorem dX6_rejected_2 : decode cX6_rejected 2 = .ok (.putfield 73, 3) := by decide +kernel
theorem dX6_rejected_5 : decode cX6_rejected 5 = .ok (.return_, 1) := by decide +kernel
set_option maxRecDepth 20000 in
theorem ggX6_lacks_X6_rejected : GoodIn wsX6_lacks wsX6_rejected := goodIn_r _ [7, 8, 9, 10, 11, 12, 13, 14, 15, 16, 17, 18, 19, 20, 21, 22, 23, 24, 25, 26, 27, 28, 29, 30, 31, 32, 33] (by decide +kernel) (by decide +kernel)
set_option maxRecDepth 20000 in
theorem gX6_lacks_X6_rejected : GoodIn wsX6_lacks (wsV RX6 82 RX6 yX6_rejected wsX6_rejected) := goodIn_app (goodIn_of _ (by decide +kernel)) ggX6_lacks_X6_rejected
theorem dX6_lacks_0 : decode cX6_lacks 0 = .ok (.aload_n 0, 1) := by decide +kernel
theorem dX6_lacks_1 : decode cX6_lacks 1 = .ok (.getfield 76, 3) := by decide +kernel
theorem dX6_lacks_4 : decode cX6_lacks 4 = .ok (.iload_n 1, 1) := by decide +kernel
theorem dX6_lacks_5 : decode cX6_lacks 5 = .ok (.iadd, 1) := by decide +kernel
theorem dX6_lacks_6 : decode cX6_lacks 6 = .ok (.aload_n 0, 1) := by decide +kernel
theorem dX6_lacks_7 : decode cX6_lacks 7 = .ok (.getfield 79, 3) := by decide +kernel
theorem dX6_lacks_10 : decode cX6_lacks 10 = .ok (.if_icmp .gt 5, 3) := by decide +kernel
theorem dX6_lacks_13 : decode cX6_lacks 13 = .ok (.iconst 0, 1) := by decide +kernel
theorem dX6_lacks_14 : decode cX6_lacks 14 = .ok (.ireturn, 1) := by decide +kernel
theorem dX6_lacks_15 : decode cX6_lacks 15 = .ok (.aload_n 0, 1) := by decide +kernel
theorem dX6_lacks_16 : decode cX6_lacks 16 = .ok (.invokevirtual 82, 3) := by decide +kernel
theorem dX6_lacks_19 : decode cX6_lacks 19 = .ok (.iconst 1, 1) := by decide +kernel
theorem dX6_lacks_20 : decode cX6_lacks 20 = .ok (.ireturn, 1) := by decide +kernel
theorem dX6_take_0 : decode cX6_take 0 = .ok (.aload_n 0, 1) := by decide +kernel
theorem dX6_take_1 : decode cX6_take 1 = .ok (.dup, 1) := by decide +kernel
theorem dX6_take_2 : decode cX6_take 2 = .ok (.getfield 76, 3) := by decide +kernel
theorem dX6_take_5 : decode cX6_take 5 = .ok (.iconst 1, 1) := by decide +kernel
theorem dX6_take_6 : decode cX6_take 6 = .ok (.iadd, 1) := by decide +kernel
theorem dX6_take_7 : decode cX6_take 7 = .ok (.putfield 76, 3) := by decide +kernel
theorem dX6_take_10 : decode cX6_take 10 = .ok (.aload_n 0, 1) := by decide +kernel
theorem dX6_take_11 : decode cX6_take 11 = .ok (.getfield 21, 3) := by decide +kernel
theorem dX6_take_14 : decode cX6_take 14 = .ok (.aload_n 0, 1) := by decide +kernel
theorem dX6_take_15 : decode cX6_take 15 = .ok (.getfield 76, 3) := by decide +kernel
theorem dX6_take_18 : decode cX6_take 18 = .ok (.iconst 1, 1) := by decide +kernel
theorem dX6_take_19 : decode cX6_take 19 = .ok (.isub, 1) := by decide +kernel
theorem dX6_take_20 : decode cX6_take 20 = .ok (.iaload, 1) := by decide +kernel
theorem dX6_take_21 : decode cX6_take 21 = .ok (.ireturn, 1) := by decide +kernel
theorem dX6_isSign_0 : decode cX6_isSign 0 = .ok (.iload_n 0, 1) := by decide +kernel
theorem dX6_isSign_1 : decode cX6_isSign 1 = .ok (.ifCond .eq 9, 3) := by decide +kernel
theorem dX6_isSign_4 : decode cX6_isSign 4 = .ok (.iload_n 0, 1) := by decide +kernel
theorem dX6_isSign_5 : decode cX6_isSign 5 = .ok (.bipush 64, 2) := by decide +kernel
theorem dX6_isSign_7 : decode cX6_isSign 7 = .ok (.if_icmp .lt 7, 3) := by decide +kernel
theorem dX6_isSign_10 : decode cX6_isSign 10 = .ok (.iconst 1, 1) := by decide +kernel
theorem dX6_isSign_11 : decode cX6_isSign 11 = .ok (.goto 4, 3) := by decide +kernel
theorem dX6_isSign_14 : decode cX6_isSign 14 = .ok (.iconst 0, 1) := by decide +kernel
theorem dX6_isSign_15 : decode cX6_isSign 15 = .ok (.ireturn, 1) := by decide +kernel
set_option maxRecDepth 20000 in
theorem ggX6_put_X6_round : GoodIn wsX6_put wsX6_round := goodIn_r _ [7, 8, 9, 10, 11, 12, 13, 14, 15, 16, 17, 18, 19, 20, 21, 22, 23, 24, 25, 26, 27, 28, 29, 30, 31, 32, 33] (by decide +kernel) (by decide +kernel)
set_option maxRecDepth 20000 in
theorem gX6_put_X6_round : GoodIn wsX6_put (wsV RX6 52 RX6 yX6_round wsX6_round) := goodIn_app (goodIn_of _ (by decide +kernel)) ggX6_put_X6_round
theorem dX6_put_0 : decode cX6_put 0 = .ok (.aload_n 0, 1) := by decide +kernel
theorem dX6_put_1 : decode cX6_put 1 = .ok (.getfield 7, 3) := by decide +kernel
theorem dX6_put_4 : decode cX6_put 4 = .ok (.aload_n 0, 1) := by decide +kernel
theorem dX6_put_5 : decode cX6_put 5 = .ok (.getfield 85, 3) := by decide +kernel
theorem dX6_put_8 : decode cX6_put 8 = .ok (.iload_n 1, 1) := by decide +kernel
theorem dX6_put_9 : decode cX6_put 9 = .ok (.iastore, 1) := by decide +kernel
theorem dX6_put_10 : decode cX6_put 10 = .ok (.aload_n 0, 1) := by decide +kernel
theorem dX6_put_11 : decode cX6_put 11 = .ok (.aload_n 0, 1) := by decide +kernel
theorem dX6_put_12 : decode cX6_put 12 = .ok (.aload_n 0, 1) := by decide +kernel
theorem dX6_put_13 : decode cX6_put 13 = .ok (.getfield 85, 3) := by decide +kernel
theorem dX6_put_16 : decode cX6_put 16 = .ok (.iconst 1, 1) := by decide +kernel
theorem dX6_put_17 : decode cX6_put 17 = .ok (.iadd, 1) := by decide +kernel
theorem dX6_put_18 : decode cX6_put 18 = .ok (.invokevirtual 52, 3) := by decide +kernel
theorem dX6_put_21 : decode cX6_put 21 = .ok (.putfield 85, 3) := by decide +kernel
theorem dX6_put_24 : decode cX6_put 24 = .ok (.return_, 1) := by decide +kernel
set_option maxRecDepth 20000 in
theorem ggX6_address_X6_lacks : GoodIn wsX6_address wsX6_lacks := goodIn_r _ [6, 7, 8, 9, 10, 11, 5, 12, 13, 19, 20, 21, 22, 23, 24, 25, 26, 27, 28, 29, 30, 31, 32, 33, 34, 35, 36, 37, 38, 39, 40, 41, 42, 43] (by decide +kernel) (by decide +kernel)
set_option maxRecDepth 20000 in
theorem gX6_address_X6_lacks : GoodIn wsX6_address (wsV RX6 88 RX6 yX6_lacks wsX6_lacks) := goodIn_app (goodIn_of _ (by decide +kernel)) ggX6_address_X6_lacks
set_option maxRecDepth 20000 in
theorem ggX6_address_X6_take : GoodIn wsX6_address wsX6_take := goodIn_r _ [17, 7, 18, 19, 20, 21, 22, 23, 24, 25, 26, 27, 28, 29, 30, 31, 32, 33, 34, 35, 36, 37, 38, 39, 40, 41, 42, 43] (by decide +kernel) (by decide +kernel)
set_option maxRecDepth 20000 in
theorem gX6_address_X6_take : GoodIn wsX6_address (wsV RX6 91 RX6 yX6_take wsX6_take) := goodIn_app (goodIn_of _ (by decide +kernel)) ggX6_address_X6_take
set_option maxRecDepth 20000 in
theorem ggX6_address_X6_rejected : GoodIn wsX6_address wsX6_rejected := goodIn_r _ [12, 13, 19, 20, 21, 22, 23, 24, 25, 26, 27, 28, 29, 30, 31, 32, 33, 34, 35, 36, 37, 38, 39, 40, 41, 42, 43] (by decide +kernel) (by decide +kernel)
set_option maxRecDepth 20000 in
theorem gX6_address_X6_rejected : GoodIn wsX6_address (wsV RX6 82 RX6 yX6_rejected wsX6_rejected) := goodIn_app (goodIn_of _ (by decide +kernel)) ggX6_address_X6_rejected
theorem dX6_address_0 : decode cX6_address 0 = .ok (.aload_n 0, 1) := by decide +kernel
theorem dX6_address_1 : decode cX6_address 1 = .ok (.iconst 2, 1) := by decide +kernel
theorem dX6_address_2 : decode cX6_address 2 = .ok (.invokevirtual 88, 3) := by decide +kernel
theorem dX6_address_5 : decode cX6_address 5 = .ok (.ifCond .eq 5, 3) := by decide +kernel
theorem dX6_address_8 : decode cX6_address 8 = .ok (.iconst (-1), 1) := by decide +kernel
theorem dX6_address_9 : decode cX6_address 9 = .ok (.ireturn, 1) := by decide +kernel
theorem dX6_address_10 : decode cX6_address 10 = .ok (.aload_n 0, 1) := by decide +kernel
theorem dX6_address_11 : decode cX6_address 11 = .ok (.invokevirtual 91, 3) := by decide +kernel
theorem dX6_address_14 : decode cX6_address 14 = .ok (.istore_n 1, 1) := by decide +kernel
theorem dX6_address_15 : decode cX6_address 15 = .ok (.aload_n 0, 1) := by decide +kernel
theorem dX6_address_16 : decode cX6_address 16 = .ok (.invokevirtual 91, 3) := by decide +kernel
theorem dX6_address_19 : decode cX6_address 19 = .ok (.istore_n 2, 1) := by decide +kernel
theorem dX6_address_20 : decode cX6_address 20 = .ok (.iload_n 1, 1) := by decide +kernel
theorem dX6_address_21 : decode cX6_address 21 = .ok (.bipush 64, 2) := by decide +kernel
theorem dX6_address_23 : decode cX6_address 23 = .ok (.if_icmp .ge 13, 3) := by decide +kernel
theorem dX6_address_26 : decode cX6_address 26 = .ok (.sipush 256, 3) := by decide +kernel
theorem dX6_address_29 : decode cX6_address 29 = .ok (.iload_n 1, 1) := by decide +kernel
theorem dX6_address_30 : decode cX6_address 30 = .ok (.imul, 1) := by decide +kernel
theorem dX6_address_31 : decode cX6_address 31 = .ok (.iload_n 2, 1) := by decide +kernel
theorem dX6_address_32 : decode cX6_address 32 = .ok (.iadd, 1) := by decide +kernel
theorem dX6_address_33 : decode cX6_address 33 = .ok (.goto 15, 3) := by decide +kernel
theorem dX6_address_36 : decode cX6_address 36 = .ok (.iload_n 1, 1) := by decide +kernel
theorem dX6_address_37 : decode cX6_address 37 = .ok (.bipush 63, 2) := by decide +kernel
theorem dX6_address_39 : decode cX6_address 39 = .ok (.iand, 1) := by decide +kernel
theorem dX6_address_40 : decode cX6_address 40 = .ok (.bipush 64, 2) := by decide +kernel
theorem dX6_address_42 : decode cX6_address 42 = .ok (.imul, 1) := by decide +kernel
theorem dX6_address_43 : decode cX6_address 43 = .ok (.iload_n 2, 1) := by decide +kernel
theorem dX6_address_44 : decode cX6_address 44 = .ok (.bipush 63, 2) := by decide +kernel
theorem dX6_address_46 : decode cX6_address 46 = .ok (.iand, 1) := by decide +kernel
theorem dX6_address_47 : decode cX6_address 47 = .ok (.iadd, 1) := by decide +kernel
theorem dX6_address_48 : decode cX6_address 48 = .ok (.istore_n 3, 1) := by decide +kernel
theorem dX6_address_49 : decode cX6_address 49 = .ok (.iload_n 3, 1) := by decide +kernel
theorem dX6_address_50 : decode cX6_address 50 = .ok (.aload_n 0, 1) := by decide +kernel
theorem dX6_address_51 : decode cX6_address 51 = .ok (.getfield 46, 3) := by decide +kernel
theorem dX6_address_54 : decode cX6_address 54 = .ok (.if_icmp .ge 5, 3) := by decide +kernel
theorem dX6_address_57 : decode cX6_address 57 = .ok (.iload_n 3, 1) := by decide +kernel
theorem dX6_address_58 : decode cX6_address 58 = .ok (.ireturn, 1) := by decide +kernel
theorem dX6_address_59 : decode cX6_address 59 = .ok (.aload_n 0, 1) := by decide +kernel
theorem dX6_address_60 : decode cX6_address 60 = .ok (.invokevirtual 82, 3) := by decide +kernel
theorem dX6_address_63 : decode cX6_address 63 = .ok (.iconst (-1), 1) := by decide +kernel
theorem dX6_address_64 : decode cX6_address 64 = .ok (.ireturn, 1) := by decide +kernel
set_option maxRecDepth 20000 in
theorem ggX6_pairs_X6_lacks : GoodIn wsX6_pairs wsX6_lacks := goodIn_r _ [5, 6, 7, 8, 9, 10, 4, 11, 12, 18, 19, 20, 21, 22, 23, 24, 25, 26, 27, 28, 29, 30, 31, 32, 33, 34, 35, 36, 37, 38, 39, 40, 41, 42] (by decide +kernel) (by decide +kernel)
set_option maxRecDepth 20000 in
theorem gX6_pairs_X6_lacks : GoodIn wsX6_pairs (wsV RX6 88 RX6 yX6_lacks wsX6_lacks) := goodIn_app (goodIn_of _ (by decide +kernel)) ggX6_pairs_X6_lacks
set_option maxRecDepth 20000 in
theorem ggX6_pairs_X6_take : GoodIn wsX6_pairs wsX6_take := goodIn_r _ [16, 6, 17, 18, 19, 20, 21, 22, 23, 24, 25, 26, 27, 28, 29, 30, 31, 32, 33, 34, 35, 36, 37, 38, 39, 40, 41, 42] (by decide +kernel) (by decide +kernel)
set_option maxRecDepth 20000 in
theorem gX6_pairs_X6_take : GoodIn wsX6_pairs (wsV RX6 91 RX6 yX6_take wsX6_take) := goodIn_app (goodIn_of _ (by decide +kernel)) ggX6_pairs_X6_take
theorem dX6_pairs_0 : decode cX6_pairs 0 = .ok (.aload_n 0, 1) := by decide +kernel
theorem dX6_pairs_1 : decode cX6_pairs 1 = .ok (.iconst 1, 1) := by decide +kernel
theorem dX6_pairs_2 : decode cX6_pairs 2 = .ok (.invokevirtual 88, 3) := by decide +kernel
theorem dX6_pairs_5 : decode cX6_pairs 5 = .ok (.ifCond .eq 5, 3) := by decide +kernel
theorem dX6_pairs_8 : decode cX6_pairs 8 = .ok (.iconst (-1), 1) := by decide +kernel
theorem dX6_pairs_9 : decode cX6_pairs 9 = .ok (.ireturn, 1) := by decide +kernel
theorem dX6_pairs_10 : decode cX6_pairs 10 = .ok (.aload_n 0, 1) := by decide +kernel
theorem dX6_pairs_11 : decode cX6_pairs 11 = .ok (.invokevirtual 91, 3) := by decide +kernel
theorem dX6_pairs_14 : decode cX6_pairs 14 = .ok (.istore_n 1, 1) := by decide +kernel
theorem dX6_pairs_15 : decode cX6_pairs 15 = .ok (.aload_n 0, 1) := by decide +kernel
theorem dX6_pairs_16 : decode cX6_pairs 16 = .ok (.iconst 2, 1) := by decide +kernel
theorem dX6_pairs_17 : decode cX6_pairs 17 = .ok (.iload_n 1, 1) := by decide +kernel
theorem dX6_pairs_18 : decode cX6_pairs 18 = .ok (.imul, 1) := by decide +kernel
theorem dX6_pairs_19 : decode cX6_pairs 19 = .ok (.invokevirtual 88, 3) := by decide +kernel
theorem dX6_pairs_22 : decode cX6_pairs 22 = .ok (.ifCond .eq 5, 3) := by decide +kernel
theorem dX6_pairs_25 : decode cX6_pairs 25 = .ok (.iconst (-1), 1) := by decide +kernel
theorem dX6_pairs_26 : decode cX6_pairs 26 = .ok (.ireturn, 1) := by decide +kernel
theorem dX6_pairs_27 : decode cX6_pairs 27 = .ok (.iconst (-1), 1) := by decide +kernel
theorem dX6_pairs_28 : decode cX6_pairs 28 = .ok (.istore_n 2, 1) := by decide +kernel
theorem dX6_pairs_29 : decode cX6_pairs 29 = .ok (.iconst 0, 1) := by decide +kernel
theorem dX6_pairs_30 : decode cX6_pairs 30 = .ok (.istore_n 3, 1) := by decide +kernel
theorem dX6_pairs_31 : decode cX6_pairs 31 = .ok (.iload_n 3, 1) := by decide +kernel
theorem dX6_pairs_32 : decode cX6_pairs 32 = .ok (.iload_n 1, 1) := by decide +kernel
theorem dX6_pairs_33 : decode cX6_pairs 33 = .ok (.if_icmp .ge 32, 3) := by decide +kernel
theorem dX6_pairs_36 : decode cX6_pairs 36 = .ok (.aload_n 0, 1) := by decide +kernel
theorem dX6_pairs_37 : decode cX6_pairs 37 = .ok (.invokevirtual 91, 3) := by decide +kernel
theorem dX6_pairs_40 : decode cX6_pairs 40 = .ok (.istore 4, 2) := by decide +kernel
theorem dX6_pairs_42 : decode cX6_pairs 42 = .ok (.aload_n 0, 1) := by decide +kernel
theorem dX6_pairs_43 : decode cX6_pairs 43 = .ok (.invokevirtual 91, 3) := by decide +kernel
theorem dX6_pairs_46 : decode cX6_pairs 46 = .ok (.istore 5, 2) := by decide +kernel
theorem dX6_pairs_48 : decode cX6_pairs 48 = .ok (.iload 4, 2) := by decide +kernel
theorem dX6_pairs_50 : decode cX6_pairs 50 = .ok (.sipush 192, 3) := by decide +kernel
theorem dX6_pairs_53 : decode cX6_pairs 53 = .ok (.if_icmp .ne 6, 3) := by decide +kernel
theorem dX6_pairs_56 : decode cX6_pairs 56 = .ok (.iload 5, 2) := by decide +kernel
theorem dX6_pairs_58 : decode cX6_pairs 58 = .ok (.istore_n 2, 1) := by decide +kernel
theorem dX6_pairs_59 : decode cX6_pairs 59 = .ok (.iinc 3 1, 3) := by decide +kernel
theorem dX6_pairs_62 : decode cX6_pairs 62 = .ok (.goto (-31), 3) := by decide +kernel
theorem dX6_pairs_65 : decode cX6_pairs 65 = .ok (.iload_n 2, 1) := by decide +kernel
theorem dX6_pairs_66 : decode cX6_pairs 66 = .ok (.ireturn, 1) := by decide +kernel
set_option maxRecDepth 20000 in
theorem ggX6_goOnToField_X6_isAttribute : GoodIn wsX6_goOnToField wsX6_isAttribute := goodIn_r _ [9, 4, 14, 15, 16, 17, 18, 19, 20, 21, 22, 23, 24, 25, 26, 27, 28, 29, 30, 31, 32, 33, 34, 35, 36, 37, 38] (by decide +kernel) (by decide +kernel)
set_option maxRecDepth 20000 in
theorem gX6_goOnToField_X6_isAttribute : GoodIn wsX6_goOnToField (wsV RX6 56 RX6 yX6_isAttribute wsX6_isAttribute) := goodIn_app (goodIn_of _ (by decide +kernel)) ggX6_goOnToField_X6_isAttribute
set_option maxRecDepth 20000 in
theorem ggX6_goOnToField_X6_round : GoodIn wsX6_goOnToField wsX6_round := goodIn_r _ [13, 3, 14, 15, 16, 17, 18, 19, 20, 21, 22, 23, 24, 25, 26, 27, 28, 29, 30, 31, 32, 33, 34, 35, 36, 37, 38] (by decide +kernel) (by decide +kernel)
set_option maxRecDepth 20000 in
theorem gX6_goOnToField_X6_round : GoodIn wsX6_goOnToField (wsV RX6 52 RX6 yX6_round wsX6_round) := goodIn_app (goodIn_of _ (by decide +kernel)) ggX6_goOnToField_X6_round
theorem dX6_goOnToField_0 : decode cX6_goOnToField 0 = .ok (.aload_n 0, 1) := by decide +kernel
theorem dX6_goOnToField_1 : decode cX6_goOnToField 1 = .ok (.getfield 94, 3) := by decide +kernel
theorem dX6_goOnToField_4 : decode cX6_goOnToField 4 = .ok (.ifCond .eq 37, 3) := by decide +kernel
theorem dX6_goOnToField_7 : decode cX6_goOnToField 7 = .ok (.aload_n 0, 1) := by decide +kernel
theorem dX6_goOnToField_8 : decode cX6_goOnToField 8 = .ok (.getfield 85, 3) := by decide +kernel
theorem dX6_goOnToField_11 : decode cX6_goOnToField 11 = .ok (.istore_n 1, 1) := by decide +kernel
theorem dX6_goOnToField_12 : decode cX6_goOnToField 12 = .ok (.iload_n 1, 1) := by decide +kernel
theorem dX6_goOnToField_13 : decode cX6_goOnToField 13 = .ok (.aload_n 0, 1) := by decide +kernel
theorem dX6_goOnToField_14 : decode cX6_goOnToField 14 = .ok (.getfield 46, 3) := by decide +kernel
theorem dX6_goOnToField_17 : decode cX6_goOnToField 17 = .ok (.if_icmp .ge 24, 3) := by decide +kernel
theorem dX6_goOnToField_20 : decode cX6_goOnToField 20 = .ok (.aload_n 0, 1) := by decide +kernel
theorem dX6_goOnToField_21 : decode cX6_goOnToField 21 = .ok (.iload_n 1, 1) := by decide +kernel
theorem dX6_goOnToField_22 : decode cX6_goOnToField 22 = .ok (.invokevirtual 56, 3) := by decide +kernel
theorem dX6_goOnToField_25 : decode cX6_goOnToField 25 = .ok (.ifCond .ne 16, 3) := by decide +kernel
theorem dX6_goOnToField_28 : decode cX6_goOnToField 28 = .ok (.aload_n 0, 1) := by decide +kernel
theorem dX6_goOnToField_29 : decode cX6_goOnToField 29 = .ok (.getfield 7, 3) := by decide +kernel
theorem dX6_goOnToField_32 : decode cX6_goOnToField 32 = .ok (.iload_n 1, 1) := by decide +kernel
theorem dX6_goOnToField_33 : decode cX6_goOnToField 33 = .ok (.iconst 0, 1) := by decide +kernel
theorem dX6_goOnToField_34 : decode cX6_goOnToField 34 = .ok (.iastore, 1) := by decide +kernel
theorem dX6_goOnToField_35 : decode cX6_goOnToField 35 = .ok (.iinc 1 1, 3) := by decide +kernel
theorem dX6_goOnToField_38 : decode cX6_goOnToField 38 = .ok (.goto (-26), 3) := by decide +kernel
theorem dX6_goOnToField_41 : decode cX6_goOnToField 41 = .ok (.aload_n 0, 1) := by decide +kernel
theorem dX6_goOnToField_42 : decode cX6_goOnToField 42 = .ok (.getfield 85, 3) := by decide +kernel
theorem dX6_goOnToField_45 : decode cX6_goOnToField 45 = .ok (.istore_n 1, 1) := by decide +kernel
theorem dX6_goOnToField_46 : decode cX6_goOnToField 46 = .ok (.iload_n 1, 1) := by decide +kernel
theorem dX6_goOnToField_47 : decode cX6_goOnToField 47 = .ok (.aload_n 0, 1) := by decide +kernel
theorem dX6_goOnToField_48 : decode cX6_goOnToField 48 = .ok (.getfield 46, 3) := by decide +kernel
theorem dX6_goOnToField_51 : decode cX6_goOnToField 51 = .ok (.if_icmp .ge 41, 3) := by decide +kernel
theorem dX6_goOnToField_54 : decode cX6_goOnToField 54 = .ok (.aload_n 0, 1) := by decide +kernel
theorem dX6_goOnToField_55 : decode cX6_goOnToField 55 = .ok (.iload_n 1, 1) := by decide +kernel
theorem dX6_goOnToField_56 : decode cX6_goOnToField 56 = .ok (.invokevirtual 56, 3) := by decide +kernel
theorem dX6_goOnToField_59 : decode cX6_goOnToField 59 = .ok (.ifCond .eq 27, 3) := by decide +kernel
theorem dX6_goOnToField_62 : decode cX6_goOnToField 62 = .ok (.aload_n 0, 1) := by decide +kernel
theorem dX6_goOnToField_63 : decode cX6_goOnToField 63 = .ok (.getfield 7, 3) := by decide +kernel
theorem dX6_goOnToField_66 : decode cX6_goOnToField 66 = .ok (.iload_n 1, 1) := by decide +kernel
theorem dX6_goOnToField_67 : decode cX6_goOnToField 67 = .ok (.iaload, 1) := by decide +kernel
theorem dX6_goOnToField_68 : decode cX6_goOnToField 68 = .ok (.bipush 32, 2) := by decide +kernel
theorem dX6_goOnToField_70 : decode cX6_goOnToField 70 = .ok (.iand, 1) := by decide +kernel
theorem dX6_goOnToField_71 : decode cX6_goOnToField 71 = .ok (.ifCond .ne 15, 3) := by decide +kernel
theorem dX6_goOnToField_74 : decode cX6_goOnToField 74 = .ok (.aload_n 0, 1) := by decide +kernel
theorem dX6_goOnToField_75 : decode cX6_goOnToField 75 = .ok (.aload_n 0, 1) := by decide +kernel
theorem dX6_goOnToField_76 : decode cX6_goOnToField 76 = .ok (.iload_n 1, 1) := by decide +kernel
theorem dX6_goOnToField_77 : decode cX6_goOnToField 77 = .ok (.iconst 1, 1) := by decide +kernel
theorem dX6_goOnToField_78 : decode cX6_goOnToField 78 = .ok (.iadd, 1) := by decide +kernel
theorem dX6_goOnToField_79 : decode cX6_goOnToField 79 = .ok (.invokevirtual 52, 3) := by decide +kernel
theorem dX6_goOnToField_82 : decode cX6_goOnToField 82 = .ok (.putfield 85, 3) := by decide +kernel
theorem dX6_goOnToField_85 : decode cX6_goOnToField 85 = .ok (.return_, 1) := by decide +kernel
theorem dX6_goOnToField_86 : decode cX6_goOnToField 86 = .ok (.iinc 1 1, 3) := by decide +kernel
theorem dX6_goOnToField_89 : decode cX6_goOnToField 89 = .ok (.goto (-43), 3) := by decide +kernel
theorem dX6_goOnToField_92 : decode cX6_goOnToField 92 = .ok (.aload_n 0, 1) := by decide +kernel
theorem dX6_goOnToField_93 : decode cX6_goOnToField 93 = .ok (.iconst 0, 1) := by decide +kernel
theorem dX6_goOnToField_94 : decode cX6_goOnToField 94 = .ok (.putfield 85, 3) := by decide +kernel
theorem dX6_goOnToField_97 : decode cX6_goOnToField 97 = .ok (.return_, 1) := by decide +kernel
set_option maxRecDepth 20000 in
theorem ggX6_repeat_X6_address : GoodIn wsX6_repeat wsX6_address := goodIn_r _ [8, 3, 9, 10, 11, 7, 12, 13, 14, 15, 16, 17, 18, 1, 19, 20, 21, 22, 23, 36, 37, 38, 39, 40, 41, 42, 43, 44, 45, 46, 47, 48, 49, 50, 51, 52, 53, 54, 55, 56, 57, 58, 59, 60] (by decide +kernel) (by decide +kernel)
set_option maxRecDepth 20000 in
theorem gX6_repeat_X6_address : GoodIn wsX6_repeat (wsV RX6 97 RX6 yX6_address wsX6_address) := goodIn_app (goodIn_of _ (by decide +kernel)) ggX6_repeat_X6_address
set_option maxRecDepth 20000 in
theorem ggX6_repeat_X6_lacks : GoodIn wsX6_repeat wsX6_lacks := goodIn_r _ [12, 13, 14, 15, 16, 17, 7, 18, 1, 36, 37, 38, 39, 40, 41, 42, 43, 44, 45, 46, 47, 48, 49, 50, 51, 52, 53, 54, 55, 56, 57, 58, 59, 60] (by decide +kernel) (by decide +kernel)
set_option maxRecDepth 20000 in
theorem gX6_repeat_X6_lacks : GoodIn wsX6_repeat (wsV RX6 88 RX6 yX6_lacks wsX6_lacks) := goodIn_app (goodIn_of _ (by decide +kernel)) ggX6_repeat_X6_lacks
set_option maxRecDepth 20000 in
theorem ggX6_repeat_X6_take : GoodIn wsX6_repeat wsX6_take := goodIn_r _ [22, 13, 23, 36, 37, 38, 39, 40, 41, 42, 43, 44, 45, 46, 47, 48, 49, 50, 51, 52, 53, 54, 55, 56, 57, 58, 59, 60] (by decide +kernel) (by decide +kernel)
set_option maxRecDepth 20000 in
theorem gX6_repeat_X6_take : GoodIn wsX6_repeat (wsV RX6 91 RX6 yX6_take wsX6_take) := goodIn_app (goodIn_of _ (by decide +kernel)) ggX6_repeat_X6_take
set_option maxRecDepth 20000 in
theorem ggX6_repeat_X6_isSign : GoodIn wsX6_repeat wsX6_isSign := goodIn_r _ [26] (by decide +kernel) (by decide +kernel)
set_option maxRecDepth 20000 in
theorem gX6_repeat_X6_isSign : GoodIn wsX6_repeat (va_wsS RX6 100 yX6_isSign wsX6_isSign) := goodIn_app (goodIn_of _ (by decide +kernel)) ggX6_repeat_X6_isSign
set_option maxRecDepth 20000 in
theorem ggX6_repeat_X6_rejected : GoodIn wsX6_repeat wsX6_rejected := goodIn_r _ [18, 1, 36, 37, 38, 39, 40, 41, 42, 43, 44, 45, 46, 47, 48, 49, 50, 51, 52, 53, 54, 55, 56, 57, 58, 59, 60] (by decide +kernel) (by decide +kernel)
set_option maxRecDepth 20000 in
theorem gX6_repeat_X6_rejected : GoodIn wsX6_repeat (wsV RX6 82 RX6 yX6_rejected wsX6_rejected) := goodIn_app (goodIn_of _ (by decide +kernel)) ggX6_repeat_X6_rejected
set_option maxRecDepth 20000 in
theorem ggX6_repeat_X6_round : GoodIn wsX6_repeat wsX6_round := goodIn_r _ [30, 3, 36, 37, 38, 39, 40, 41, 42, 43, 44, 45, 46, 47, 48, 49, 50, 51, 52, 53, 54, 55, 56, 57, 58, 59, 60] (by decide +kernel) (by decide +kernel)
set_option maxRecDepth 20000 in
theorem gX6_repeat_X6_round : GoodIn wsX6_repeat (wsV RX6 52 RX6 yX6_round wsX6_round) := goodIn_app (goodIn_of _ (by decide +kernel)) ggX6_repeat_X6_round
set_option maxRecDepth 20000 in
theorem ggX6_repeat_X6_put : GoodIn wsX6_repeat wsX6_put := goodIn_r _ [34, 35, 2, 27, 28, 29, 7, 30, 3, 36, 37, 38, 39, 40, 41, 42, 43, 44, 45, 46, 47, 48, 49, 50, 51, 52, 53, 54, 55, 56, 57, 58, 59, 60] (by decide +kernel) (by decide +kernel)
set_option maxRecDepth 20000 in
theorem gX6_repeat_X6_put : GoodIn wsX6_repeat (wsV RX6 103 RX6 yX6_put wsX6_put) := goodIn_app (goodIn_of _ (by decide +kernel)) ggX6_repeat_X6_put
theorem dX6_repeat_0 : decode cX6_repeat 0 = .ok (.aload_n 0, 1) := by decide +kernel
theorem dX6_repeat_1 : decode cX6_repeat 1 = .ok (.invokevirtual 97, 3) := by decide +kernel
theorem dX6_repeat_4 : decode cX6_repeat 4 = .ok (.istore_n 1, 1) := by decide +kernel
theorem dX6_repeat_5 : decode cX6_repeat 5 = .ok (.aload_n 0, 1) := by decide +kernel
theorem dX6_repeat_6 : decode cX6_repeat 6 = .ok (.getfield 73, 3) := by decide +kernel
theorem dX6_repeat_9 : decode cX6_repeat 9 = .ok (.ifCond .ne 11, 3) := by decide +kernel
theorem dX6_repeat_12 : decode cX6_repeat 12 = .ok (.aload_n 0, 1) := by decide +kernel
theorem dX6_repeat_13 : decode cX6_repeat 13 = .ok (.iconst 1, 1) := by decide +kernel
theorem dX6_repeat_14 : decode cX6_repeat 14 = .ok (.invokevirtual 88, 3) := by decide +kernel
theorem dX6_repeat_17 : decode cX6_repeat 17 = .ok (.ifCond .eq 4, 3) := by decide +kernel
theorem dX6_repeat_20 : decode cX6_repeat 20 = .ok (.return_, 1) := by decide +kernel
theorem dX6_repeat_21 : decode cX6_repeat 21 = .ok (.aload_n 0, 1) := by decide +kernel
theorem dX6_repeat_22 : decode cX6_repeat 22 = .ok (.invokevirtual 91, 3) := by decide +kernel
theorem dX6_repeat_25 : decode cX6_repeat 25 = .ok (.istore_n 2, 1) := by decide +kernel
theorem dX6_repeat_26 : decode cX6_repeat 26 = .ok (.iload_n 2, 1) := by decide +kernel
theorem dX6_repeat_27 : decode cX6_repeat 27 = .ok (.invokestatic 100, 3) := by decide +kernel
theorem dX6_repeat_30 : decode cX6_repeat 30 = .ok (.ifCond .ne 8, 3) := by decide +kernel
theorem dX6_repeat_33 : decode cX6_repeat 33 = .ok (.aload_n 0, 1) := by decide +kernel
theorem dX6_repeat_34 : decode cX6_repeat 34 = .ok (.invokevirtual 82, 3) := by decide +kernel
theorem dX6_repeat_37 : decode cX6_repeat 37 = .ok (.return_, 1) := by decide +kernel
theorem dX6_repeat_38 : decode cX6_repeat 38 = .ok (.aload_n 0, 1) := by decide +kernel
theorem dX6_repeat_39 : decode cX6_repeat 39 = .ok (.iload_n 1, 1) := by decide +kernel
theorem dX6_repeat_40 : decode cX6_repeat 40 = .ok (.aload_n 0, 1) := by decide +kernel
theorem dX6_repeat_41 : decode cX6_repeat 41 = .ok (.getfield 85, 3) := by decide +kernel
theorem dX6_repeat_44 : decode cX6_repeat 44 = .ok (.isub, 1) := by decide +kernel
theorem dX6_repeat_45 : decode cX6_repeat 45 = .ok (.invokevirtual 52, 3) := by decide +kernel
theorem dX6_repeat_48 : decode cX6_repeat 48 = .ok (.ifCond .ne 10, 3) := by decide +kernel
theorem dX6_repeat_51 : decode cX6_repeat 51 = .ok (.aload_n 0, 1) := by decide +kernel
theorem dX6_repeat_52 : decode cX6_repeat 52 = .ok (.getfield 46, 3) := by decide +kernel
theorem dX6_repeat_55 : decode cX6_repeat 55 = .ok (.goto 13, 3) := by decide +kernel
theorem dX6_repeat_58 : decode cX6_repeat 58 = .ok (.aload_n 0, 1) := by decide +kernel
theorem dX6_repeat_59 : decode cX6_repeat 59 = .ok (.iload_n 1, 1) := by decide +kernel
theorem dX6_repeat_60 : decode cX6_repeat 60 = .ok (.aload_n 0, 1) := by decide +kernel
theorem dX6_repeat_61 : decode cX6_repeat 61 = .ok (.getfield 85, 3) := by decide +kernel
theorem dX6_repeat_64 : decode cX6_repeat 64 = .ok (.isub, 1) := by decide +kernel
theorem dX6_repeat_65 : decode cX6_repeat 65 = .ok (.invokevirtual 52, 3) := by decide +kernel
theorem dX6_repeat_68 : decode cX6_repeat 68 = .ok (.istore_n 3, 1) := by decide +kernel
theorem dX6_repeat_69 : decode cX6_repeat 69 = .ok (.iconst 0, 1) := by decide +kernel
theorem dX6_repeat_70 : decode cX6_repeat 70 = .ok (.istore 4, 2) := by decide +kernel
theorem dX6_repeat_72 : decode cX6_repeat 72 = .ok (.iload 4, 2) := by decide +kernel
theorem dX6_repeat_74 : decode cX6_repeat 74 = .ok (.iload_n 3, 1) := by decide +kernel
theorem dX6_repeat_75 : decode cX6_repeat 75 = .ok (.if_icmp .ge 14, 3) := by decide +kernel
theorem dX6_repeat_78 : decode cX6_repeat 78 = .ok (.aload_n 0, 1) := by decide +kernel
theorem dX6_repeat_79 : decode cX6_repeat 79 = .ok (.iload_n 2, 1) := by decide +kernel
theorem dX6_repeat_80 : decode cX6_repeat 80 = .ok (.invokevirtual 103, 3) := by decide +kernel
theorem dX6_repeat_83 : decode cX6_repeat 83 = .ok (.iinc 4 1, 3) := by decide +kernel
theorem dX6_repeat_86 : decode cX6_repeat 86 = .ok (.goto (-14), 3) := by decide +kernel
theorem dX6_repeat_89 : decode cX6_repeat 89 = .ok (.aload_n 0, 1) := by decide +kernel
theorem dX6_repeat_90 : decode cX6_repeat 90 = .ok (.iload_n 1, 1) := by decide +kernel
theorem dX6_repeat_91 : decode cX6_repeat 91 = .ok (.putfield 85, 3) := by decide +kernel
theorem dX6_repeat_94 : decode cX6_repeat 94 = .ok (.return_, 1) := by decide +kernel
set_option maxRecDepth 20000 in
theorem ggX6_erase_X6_address : GoodIn wsX6_erase wsX6_address := goodIn_r _ [9, 3, 10, 11, 12, 8, 13, 14, 15, 16, 17, 18, 19, 1, 20, 21, 22, 23, 24, 49, 50, 51, 52, 53, 54, 55, 56, 57, 58, 59, 60, 61, 62, 63, 64, 65, 66, 67, 68, 69, 70, 71, 72, 73] (by decide +kernel) (by decide +kernel)
set_option maxRecDepth 20000 in
theorem gX6_erase_X6_address : GoodIn wsX6_erase (wsV RX6 97 RX6 yX6_address wsX6_address) := goodIn_app (goodIn_of _ (by decide +kernel)) ggX6_erase_X6_address
set_option maxRecDepth 20000 in
theorem ggX6_erase_X6_round : GoodIn wsX6_erase wsX6_round := goodIn_r _ [28, 3, 49, 50, 51, 52, 53, 54, 55, 56, 57, 58, 59, 60, 61, 62, 63, 64, 65, 66, 67, 68, 69, 70, 71, 72, 73] (by decide +kernel) (by decide +kernel)
set_option maxRecDepth 20000 in
theorem gX6_erase_X6_round : GoodIn wsX6_erase (wsV RX6 52 RX6 yX6_round wsX6_round) := goodIn_app (goodIn_of _ (by decide +kernel)) ggX6_erase_X6_round
set_option maxRecDepth 20000 in
theorem ggX6_erase_X6_mayBeTyped : GoodIn wsX6_erase wsX6_mayBeTyped := goodIn_r _ [32, 33, 34, 35, 8, 36, 4, 37, 38, 39, 40, 41, 42, 43, 44, 45, 46, 47, 48, 3, 25, 26, 27, 28, 49, 50, 51, 52, 53, 54, 55, 56, 57, 58, 59, 60, 61, 62, 63, 64, 65, 66, 67, 68, 69, 70, 71, 72, 73] (by decide +kernel) (by decide +kernel)
set_option maxRecDepth 20000 in
theorem gX6_erase_X6_mayBeTyped : GoodIn wsX6_erase (wsV RX6 107 RX6 yX6_mayBeTyped wsX6_mayBeTyped) := goodIn_app (goodIn_of _ (by decide +kernel)) ggX6_erase_X6_mayBeTyped
theorem dX6_erase_0 : decode cX6_erase 0 = .ok (.aload_n 0, 1) := by decide +kernel
theorem dX6_erase_1 : decode cX6_erase 1 = .ok (.invokevirtual 97, 3) := by decide +kernel
theorem dX6_erase_4 : decode cX6_erase 4 = .ok (.istore_n 1, 1) := by decide +kernel
theorem dX6_erase_5 : decode cX6_erase 5 = .ok (.aload_n 0, 1) := by decide +kernel
theorem dX6_erase_6 : decode cX6_erase 6 = .ok (.getfield 73, 3) := by decide +kernel
theorem dX6_erase_9 : decode cX6_erase 9 = .ok (.ifCond .eq 4, 3) := by decide +kernel
theorem dX6_erase_12 : decode cX6_erase 12 = .ok (.return_, 1) := by decide +kernel
theorem dX6_erase_13 : decode cX6_erase 13 = .ok (.aload_n 0, 1) := by decide +kernel
theorem dX6_erase_14 : decode cX6_erase 14 = .ok (.iload_n 1, 1) := by decide +kernel
theorem dX6_erase_15 : decode cX6_erase 15 = .ok (.aload_n 0, 1) := by decide +kernel
theorem dX6_erase_16 : decode cX6_erase 16 = .ok (.getfield 85, 3) := by decide +kernel
theorem dX6_erase_19 : decode cX6_erase 19 = .ok (.isub, 1) := by decide +kernel
theorem dX6_erase_20 : decode cX6_erase 20 = .ok (.invokevirtual 52, 3) := by decide +kernel
theorem dX6_erase_23 : decode cX6_erase 23 = .ok (.ifCond .ne 10, 3) := by decide +kernel
theorem dX6_erase_26 : decode cX6_erase 26 = .ok (.aload_n 0, 1) := by decide +kernel
theorem dX6_erase_27 : decode cX6_erase 27 = .ok (.getfield 46, 3) := by decide +kernel
theorem dX6_erase_30 : decode cX6_erase 30 = .ok (.goto 13, 3) := by decide +kernel
theorem dX6_erase_33 : decode cX6_erase 33 = .ok (.aload_n 0, 1) := by decide +kernel
theorem dX6_erase_34 : decode cX6_erase 34 = .ok (.iload_n 1, 1) := by decide +kernel
theorem dX6_erase_35 : decode cX6_erase 35 = .ok (.aload_n 0, 1) := by decide +kernel
theorem dX6_erase_36 : decode cX6_erase 36 = .ok (.getfield 85, 3) := by decide +kernel
theorem dX6_erase_39 : decode cX6_erase 39 = .ok (.isub, 1) := by decide +kernel
theorem dX6_erase_40 : decode cX6_erase 40 = .ok (.invokevirtual 52, 3) := by decide +kernel
theorem dX6_erase_43 : decode cX6_erase 43 = .ok (.istore_n 2, 1) := by decide +kernel
theorem dX6_erase_44 : decode cX6_erase 44 = .ok (.iconst 0, 1) := by decide +kernel
theorem dX6_erase_45 : decode cX6_erase 45 = .ok (.istore_n 3, 1) := by decide +kernel
theorem dX6_erase_46 : decode cX6_erase 46 = .ok (.iload_n 3, 1) := by decide +kernel
theorem dX6_erase_47 : decode cX6_erase 47 = .ok (.iload_n 2, 1) := by decide +kernel
theorem dX6_erase_48 : decode cX6_erase 48 = .ok (.if_icmp .ge 38, 3) := by decide +kernel
theorem dX6_erase_51 : decode cX6_erase 51 = .ok (.aload_n 0, 1) := by decide +kernel
theorem dX6_erase_52 : decode cX6_erase 52 = .ok (.aload_n 0, 1) := by decide +kernel
theorem dX6_erase_53 : decode cX6_erase 53 = .ok (.getfield 85, 3) := by decide +kernel
theorem dX6_erase_56 : decode cX6_erase 56 = .ok (.iload_n 3, 1) := by decide +kernel
theorem dX6_erase_57 : decode cX6_erase 57 = .ok (.iadd, 1) := by decide +kernel
theorem dX6_erase_58 : decode cX6_erase 58 = .ok (.invokevirtual 52, 3) := by decide +kernel
theorem dX6_erase_61 : decode cX6_erase 61 = .ok (.istore 4, 2) := by decide +kernel
theorem dX6_erase_63 : decode cX6_erase 63 = .ok (.aload_n 0, 1) := by decide +kernel
theorem dX6_erase_64 : decode cX6_erase 64 = .ok (.iload 4, 2) := by decide +kernel
theorem dX6_erase_66 : decode cX6_erase 66 = .ok (.invokevirtual 107, 3) := by decide +kernel
theorem dX6_erase_69 : decode cX6_erase 69 = .ok (.ifCond .eq 11, 3) := by decide +kernel
theorem dX6_erase_72 : decode cX6_erase 72 = .ok (.aload_n 0, 1) := by decide +kernel
theorem dX6_erase_73 : decode cX6_erase 73 = .ok (.getfield 7, 3) := by decide +kernel
theorem dX6_erase_76 : decode cX6_erase 76 = .ok (.iload 4, 2) := by decide +kernel
theorem dX6_erase_78 : decode cX6_erase 78 = .ok (.iconst 0, 1) := by decide +kernel
theorem dX6_erase_79 : decode cX6_erase 79 = .ok (.iastore, 1) := by decide +kernel
theorem dX6_erase_80 : decode cX6_erase 80 = .ok (.iinc 3 1, 3) := by decide +kernel
theorem dX6_erase_83 : decode cX6_erase 83 = .ok (.goto (-37), 3) := by decide +kernel
theorem dX6_erase_86 : decode cX6_erase 86 = .ok (.aload_n 0, 1) := by decide +kernel
theorem dX6_erase_87 : decode cX6_erase 87 = .ok (.iload_n 1, 1) := by decide +kernel
theorem dX6_erase_88 : decode cX6_erase 88 = .ok (.putfield 85, 3) := by decide +kernel
theorem dX6_erase_91 : decode cX6_erase 91 = .ok (.return_, 1) := by decide +kernel
set_option maxRecDepth 20000 in
theorem ggX6_order_X6_goOnToField : GoodIn wsX6_order wsX6_goOnToField := goodIn_r _ [9, 10, 2, 11, 12, 13, 14, 15, 8, 16, 17, 18, 19, 20, 79, 80, 81, 82, 83, 84, 85, 86, 87, 88, 89, 90, 91, 92, 93, 94, 95, 96, 97, 98, 99, 100, 101, 102, 103] (by decide +kernel) (by decide +kernel)
set_option maxRecDepth 20000 in
theorem gX6_order_X6_goOnToField : GoodIn wsX6_order (wsV RX6 110 RX6 yX6_goOnToField wsX6_goOnToField) := goodIn_app (goodIn_of _ (by decide +kernel)) ggX6_order_X6_goOnToField
set_option maxRecDepth 20000 in
theorem ggX6_order_X6_lacks : GoodIn wsX6_order wsX6_lacks := goodIn_r _ [24, 25, 26, 27, 28, 29, 8, 30, 1, 79, 80, 81, 82, 83, 84, 85, 86, 87, 88, 89, 90, 91, 92, 93, 94, 95, 96, 97, 98, 99, 100, 101, 102, 103] (by decide +kernel) (by decide +kernel)
set_option maxRecDepth 20000 in
theorem gX6_order_X6_lacks : GoodIn wsX6_order (wsV RX6 88 RX6 yX6_lacks wsX6_lacks) := goodIn_app (goodIn_of _ (by decide +kernel)) ggX6_order_X6_lacks
set_option maxRecDepth 20000 in
theorem ggX6_order_X6_take : GoodIn wsX6_order wsX6_take := goodIn_r _ [34, 25, 35, 79, 80, 81, 82, 83, 84, 85, 86, 87, 88, 89, 90, 91, 92, 93, 94, 95, 96, 97, 98, 99, 100, 101, 102, 103] (by decide +kernel) (by decide +kernel)
set_option maxRecDepth 20000 in
theorem gX6_order_X6_take : GoodIn wsX6_order (wsV RX6 91 RX6 yX6_take wsX6_take) := goodIn_app (goodIn_of _ (by decide +kernel)) ggX6_order_X6_take
set_option maxRecDepth 20000 in
theorem ggX6_order_X6_isSign : GoodIn wsX6_order wsX6_isSign := goodIn_r _ [38] (by decide +kernel) (by decide +kernel)
set_option maxRecDepth 20000 in
theorem gX6_order_X6_isSign : GoodIn wsX6_order (va_wsS RX6 100 yX6_isSign wsX6_isSign) := goodIn_app (goodIn_of _ (by decide +kernel)) ggX6_order_X6_isSign
set_option maxRecDepth 20000 in
theorem ggX6_order_X6_put : GoodIn wsX6_order wsX6_put := goodIn_r _ [42, 12, 2, 17, 18, 19, 8, 20, 11, 79, 80, 81, 82, 83, 84, 85, 86, 87, 88, 89, 90, 91, 92, 93, 94, 95, 96, 97, 98, 99, 100, 101, 102, 103] (by decide +kernel) (by decide +kernel)
set_option maxRecDepth 20000 in
theorem gX6_order_X6_put : GoodIn wsX6_order (wsV RX6 103 RX6 yX6_put wsX6_put) := goodIn_app (goodIn_of _ (by decide +kernel)) ggX6_order_X6_put
set_option maxRecDepth 20000 in
theorem ggX6_order_X6_rejected : GoodIn wsX6_order wsX6_rejected := goodIn_r _ [30, 1, 79, 80, 81, 82, 83, 84, 85, 86, 87, 88, 89, 90, 91, 92, 93, 94, 95, 96, 97, 98, 99, 100, 101, 102, 103] (by decide +kernel) (by decide +kernel)
set_option maxRecDepth 20000 in
theorem gX6_order_X6_rejected : GoodIn wsX6_order (wsV RX6 82 RX6 yX6_rejected wsX6_rejected) := goodIn_app (goodIn_of _ (by decide +kernel)) ggX6_order_X6_rejected
set_option maxRecDepth 20000 in
theorem ggX6_order_X6_address : GoodIn wsX6_order wsX6_address := goodIn_r _ [46, 11, 21, 22, 23, 8, 24, 25, 26, 27, 28, 29, 30, 1, 31, 32, 33, 34, 35, 79, 80, 81, 82, 83, 84, 85, 86, 87, 88, 89, 90, 91, 92, 93, 94, 95, 96, 97, 98, 99, 100, 101, 102, 103] (by decide +kernel) (by decide +kernel)
set_option maxRecDepth 20000 in
theorem gX6_order_X6_address : GoodIn wsX6_order (wsV RX6 97 RX6 yX6_address wsX6_address) := goodIn_app (goodIn_of _ (by decide +kernel)) ggX6_order_X6_address
set_option maxRecDepth 20000 in
theorem ggX6_order_X6_erase : GoodIn wsX6_order wsX6_erase := goodIn_r _ [50, 1, 2, 11, 12, 43, 44, 45, 8, 46, 21, 22, 23, 24, 25, 26, 27, 28, 29, 30, 31, 32, 33, 34, 35, 17, 18, 19, 20, 51, 52, 53, 54, 13, 14, 15, 16, 55, 56, 57, 58, 59, 60, 61, 62, 63, 64, 65, 66, 79, 80, 81, 82, 83, 84, 85, 86, 87, 88, 89, 90, 91, 92, 93, 94, 95, 96, 97, 98, 99, 100, 101, 102, 103] (by decide +kernel) (by decide +kernel)
set_option maxRecDepth 20000 in
theorem gX6_order_X6_erase : GoodIn wsX6_order (wsV RX6 113 RX6 yX6_erase wsX6_erase) := goodIn_app (goodIn_of _ (by decide +kernel)) ggX6_order_X6_erase
set_option maxRecDepth 20000 in
theorem ggX6_order_X6_pairs : GoodIn wsX6_order wsX6_pairs := goodIn_r _ [70, 21, 22, 23, 8, 24, 25, 26, 27, 28, 29, 30, 1, 31, 32, 33, 34, 35, 79, 80, 81, 82, 83, 84, 85, 86, 87, 88, 89, 90, 91, 92, 93, 94, 95, 96, 97, 98, 99, 100, 101, 102, 103] (by decide +kernel) (by decide +kernel)
set_option maxRecDepth 20000 in
theorem gX6_order_X6_pairs : GoodIn wsX6_order (wsV RX6 116 RX6 yX6_pairs wsX6_pairs) := goodIn_app (goodIn_of _ (by decide +kernel)) ggX6_order_X6_pairs
set_option maxRecDepth 20000 in
theorem ggX6_order_X6_change : GoodIn wsX6_order wsX6_change := goodIn_r _ [74, 2, 1, 12, 13, 14, 15, 8, 16, 27, 28, 29, 30, 67, 68, 69, 70, 21, 22, 23, 24, 25, 26, 31, 32, 33, 34, 35, 17, 18, 19, 20, 11, 79, 80, 81, 82, 83, 84, 85, 86, 87, 88, 89, 90, 91, 92, 93, 94, 95, 96, 97, 98, 99, 100, 101, 102, 103] (by decide +kernel) (by decide +kernel)
set_option maxRecDepth 20000 in
theorem gX6_order_X6_change : GoodIn wsX6_order (wsV RX6 119 RX6 yX6_change wsX6_change) := goodIn_app (goodIn_of _ (by decide +kernel)) ggX6_order_X6_change
set_option maxRecDepth 20000 in
theorem ggX6_order_X6_repeat : GoodIn wsX6_order wsX6_repeat := goodIn_r _ [78, 1, 2, 11, 43, 44, 45, 8, 46, 21, 22, 23, 24, 25, 26, 27, 28, 29, 30, 31, 32, 33, 34, 35, 36, 37, 38, 17, 18, 19, 20, 39, 40, 41, 42, 12, 79, 80, 81, 82, 83, 84, 85, 86, 87, 88, 89, 90, 91, 92, 93, 94, 95, 96, 97, 98, 99, 100, 101, 102, 103] (by decide +kernel) (by decide +kernel)
set_option maxRecDepth 20000 in
theorem gX6_order_X6_repeat : GoodIn wsX6_order (wsV RX6 122 RX6 yX6_repeat wsX6_repeat) := goodIn_app (goodIn_of _ (by decide +kernel)) ggX6_order_X6_repeat
theorem dX6_order_0 : decode cX6_order 0 = .ok (.iload_n 1, 1) := by decide +kernel
theorem dX6_order_1 : decode cX6_order 1 = .ok (.lookupswitch 237 #[(5, 83), (8, 90), (17, 126), (18, 146), (19, 153), (29, 164), (41, 187), (44, 223), (60, 230)], 83) := by decide +kernel
theorem dX6_order_84 : decode cX6_order 84 = .ok (.aload_n 0, 1) := by decide +kernel
theorem dX6_order_85 : decode cX6_order 85 = .ok (.invokevirtual 110, 3) := by decide +kernel
theorem dX6_order_88 : decode cX6_order 88 = .ok (.goto 154, 3) := by decide +kernel
theorem dX6_order_91 : decode cX6_order 91 = .ok (.aload_n 0, 1) := by decide +kernel
theorem dX6_order_92 : decode cX6_order 92 = .ok (.iconst 1, 1) := by decide +kernel
theorem dX6_order_93 : decode cX6_order 93 = .ok (.invokevirtual 88, 3) := by decide +kernel
theorem dX6_order_96 : decode cX6_order 96 = .ok (.ifCond .eq 4, 3) := by decide +kernel
theorem dX6_order_99 : decode cX6_order 99 = .ok (.return_, 1) := by decide +kernel
theorem dX6_order_100 : decode cX6_order 100 = .ok (.aload_n 0, 1) := by decide +kernel
theorem dX6_order_101 : decode cX6_order 101 = .ok (.invokevirtual 91, 3) := by decide +kernel
theorem dX6_order_104 : decode cX6_order 104 = .ok (.istore_n 2, 1) := by decide +kernel
theorem dX6_order_105 : decode cX6_order 105 = .ok (.iload_n 2, 1) := by decide +kernel
theorem dX6_order_106 : decode cX6_order 106 = .ok (.invokestatic 100, 3) := by decide +kernel
theorem dX6_order_109 : decode cX6_order 109 = .ok (.ifCond .eq 11, 3) := by decide +kernel
theorem dX6_order_112 : decode cX6_order 112 = .ok (.aload_n 0, 1) := by decide +kernel
theorem dX6_order_113 : decode cX6_order 113 = .ok (.iload_n 2, 1) := by decide +kernel
theorem dX6_order_114 : decode cX6_order 114 = .ok (.invokevirtual 103, 3) := by decide +kernel
theorem dX6_order_117 : decode cX6_order 117 = .ok (.goto 125, 3) := by decide +kernel
theorem dX6_order_120 : decode cX6_order 120 = .ok (.aload_n 0, 1) := by decide +kernel
theorem dX6_order_121 : decode cX6_order 121 = .ok (.invokevirtual 82, 3) := by decide +kernel
theorem dX6_order_124 : decode cX6_order 124 = .ok (.goto 118, 3) := by decide +kernel
theorem dX6_order_127 : decode cX6_order 127 = .ok (.aload_n 0, 1) := by decide +kernel
theorem dX6_order_128 : decode cX6_order 128 = .ok (.invokevirtual 97, 3) := by decide +kernel
theorem dX6_order_131 : decode cX6_order 131 = .ok (.istore_n 3, 1) := by decide +kernel
theorem dX6_order_132 : decode cX6_order 132 = .ok (.aload_n 0, 1) := by decide +kernel
theorem dX6_order_133 : decode cX6_order 133 = .ok (.getfield 73, 3) := by decide +kernel
theorem dX6_order_136 : decode cX6_order 136 = .ok (.ifCond .ne 106, 3) := by decide +kernel
theorem dX6_order_139 : decode cX6_order 139 = .ok (.aload_n 0, 1) := by decide +kernel
theorem dX6_order_140 : decode cX6_order 140 = .ok (.iload_n 3, 1) := by decide +kernel
theorem dX6_order_141 : decode cX6_order 141 = .ok (.putfield 85, 3) := by decide +kernel
theorem dX6_order_144 : decode cX6_order 144 = .ok (.goto 98, 3) := by decide +kernel
theorem dX6_order_147 : decode cX6_order 147 = .ok (.aload_n 0, 1) := by decide +kernel
theorem dX6_order_148 : decode cX6_order 148 = .ok (.invokevirtual 113, 3) := by decide +kernel
theorem dX6_order_151 : decode cX6_order 151 = .ok (.goto 91, 3) := by decide +kernel
theorem dX6_order_154 : decode cX6_order 154 = .ok (.aload_n 0, 1) := by decide +kernel
theorem dX6_order_155 : decode cX6_order 155 = .ok (.aload_n 0, 1) := by decide +kernel
theorem dX6_order_156 : decode cX6_order 156 = .ok (.getfield 85, 3) := by decide +kernel
theorem dX6_order_159 : decode cX6_order 159 = .ok (.putfield 49, 3) := by decide +kernel
theorem dX6_order_162 : decode cX6_order 162 = .ok (.goto 80, 3) := by decide +kernel
theorem dX6_order_165 : decode cX6_order 165 = .ok (.aload_n 0, 1) := by decide +kernel
theorem dX6_order_166 : decode cX6_order 166 = .ok (.iconst 1, 1) := by decide +kernel
theorem dX6_order_167 : decode cX6_order 167 = .ok (.invokevirtual 88, 3) := by decide +kernel
theorem dX6_order_170 : decode cX6_order 170 = .ok (.ifCond .ne 72, 3) := by decide +kernel
theorem dX6_order_173 : decode cX6_order 173 = .ok (.aload_n 0, 1) := by decide +kernel
theorem dX6_order_174 : decode cX6_order 174 = .ok (.sipush 256, 3) := by decide +kernel
theorem dX6_order_177 : decode cX6_order 177 = .ok (.aload_n 0, 1) := by decide +kernel
theorem dX6_order_178 : decode cX6_order 178 = .ok (.invokevirtual 91, 3) := by decide +kernel
theorem dX6_order_181 : decode cX6_order 181 = .ok (.iadd, 1) := by decide +kernel
theorem dX6_order_182 : decode cX6_order 182 = .ok (.invokevirtual 103, 3) := by decide +kernel
theorem dX6_order_185 : decode cX6_order 185 = .ok (.goto 57, 3) := by decide +kernel
theorem dX6_order_188 : decode cX6_order 188 = .ok (.aload_n 0, 1) := by decide +kernel
theorem dX6_order_189 : decode cX6_order 189 = .ok (.invokevirtual 116, 3) := by decide +kernel
theorem dX6_order_192 : decode cX6_order 192 = .ok (.istore 4, 2) := by decide +kernel
theorem dX6_order_194 : decode cX6_order 194 = .ok (.aload_n 0, 1) := by decide +kernel
theorem dX6_order_195 : decode cX6_order 195 = .ok (.getfield 73, 3) := by decide +kernel
theorem dX6_order_198 : decode cX6_order 198 = .ok (.ifCond .ne 44, 3) := by decide +kernel
theorem dX6_order_201 : decode cX6_order 201 = .ok (.aload_n 0, 1) := by decide +kernel
theorem dX6_order_202 : decode cX6_order 202 = .ok (.sipush 256, 3) := by decide +kernel
theorem dX6_order_205 : decode cX6_order 205 = .ok (.iload 4, 2) := by decide +kernel
theorem dX6_order_207 : decode cX6_order 207 = .ok (.iconst (-1), 1) := by decide +kernel
theorem dX6_order_208 : decode cX6_order 208 = .ok (.if_icmp .ne 7, 3) := by decide +kernel
theorem dX6_order_211 : decode cX6_order 211 = .ok (.iconst 0, 1) := by decide +kernel
theorem dX6_order_212 : decode cX6_order 212 = .ok (.goto 5, 3) := by decide +kernel
theorem dX6_order_215 : decode cX6_order 215 = .ok (.iload 4, 2) := by decide +kernel
theorem dX6_order_217 : decode cX6_order 217 = .ok (.iadd, 1) := by decide +kernel
theorem dX6_order_218 : decode cX6_order 218 = .ok (.invokevirtual 103, 3) := by decide +kernel
theorem dX6_order_221 : decode cX6_order 221 = .ok (.goto 21, 3) := by decide +kernel
theorem dX6_order_224 : decode cX6_order 224 = .ok (.aload_n 0, 1) := by decide +kernel
theorem dX6_order_225 : decode cX6_order 225 = .ok (.invokevirtual 119, 3) := by decide +kernel
theorem dX6_order_228 : decode cX6_order 228 = .ok (.goto 14, 3) := by decide +kernel
theorem dX6_order_231 : decode cX6_order 231 = .ok (.aload_n 0, 1) := by decide +kernel
theorem dX6_order_232 : decode cX6_order 232 = .ok (.invokevirtual 122, 3) := by decide +kernel
theorem dX6_order_235 : decode cX6_order 235 = .ok (.goto 7, 3) := by decide +kernel
theorem dX6_order_238 : decode cX6_order 238 = .ok (.aload_n 0, 1) := by decide +kernel
theorem dX6_order_239 : decode cX6_order 239 = .ok (.invokevirtual 82, 3) := by decide +kernel
theorem dX6_order_242 : decode cX6_order 242 = .ok (.aload_n 0, 1) := by decide +kernel
theorem dX6_order_243 : decode cX6_order 243 = .ok (.getfield 73, 3) := by decide +kernel
theorem dX6_order_246 : decode cX6_order 246 = .ok (.ifCond .ne 13, 3) := by decide +kernel
theorem dX6_order_249 : decode cX6_order 249 = .ok (.aload_n 0, 1) := by decide +kernel
theorem dX6_order_250 : decode cX6_order 250 = .ok (.dup, 1) := by decide +kernel
theorem dX6_order_251 : decode cX6_order 251 = .ok (.getfield 125, 3) := by decide +kernel
theorem dX6_order_254 : decode cX6_order 254 = .ok (.iconst 1, 1) := by decide +kernel
theorem dX6_order_255 : decode cX6_order 255 = .ok (.iadd, 1) := by decide +kernel
theorem dX6_order_256 : decode cX6_order 256 = .ok (.putfield 125, 3) := by decide +kernel
theorem dX6_order_259 : decode cX6_order 259 = .ok (.return_, 1) := by decide +kernel
set_option maxRecDepth 20000 in
theorem ggX6_change_X6_isAttribute : GoodIn wsX6_change wsX6_isAttribute := goodIn_r _ [8, 3, 33, 34, 35, 36, 37, 38, 39, 40, 41, 42, 43, 44, 45, 46, 47, 48, 49, 50, 51, 52, 53, 54, 55, 56, 57] (by decide +kernel) (by decide +kernel)
set_option maxRecDepth 20000 in
theorem gX6_change_X6_isAttribute : GoodIn wsX6_change (wsV RX6 56 RX6 yX6_isAttribute wsX6_isAttribute) := goodIn_app (goodIn_of _ (by decide +kernel)) ggX6_change_X6_isAttribute
set_option maxRecDepth 20000 in
theorem ggX6_change_X6_rejected : GoodIn wsX6_change wsX6_rejected := goodIn_r _ [12, 2, 33, 34, 35, 36, 37, 38, 39, 40, 41, 42, 43, 44, 45, 46, 47, 48, 49, 50, 51, 52, 53, 54, 55, 56, 57] (by decide +kernel) (by decide +kernel)
set_option maxRecDepth 20000 in
theorem gX6_change_X6_rejected : GoodIn wsX6_change (wsV RX6 82 RX6 yX6_rejected wsX6_rejected) := goodIn_app (goodIn_of _ (by decide +kernel)) ggX6_change_X6_rejected
set_option maxRecDepth 20000 in
theorem ggX6_change_X6_pairs : GoodIn wsX6_change wsX6_pairs := goodIn_r _ [16, 17, 18, 19, 7, 20, 21, 22, 9, 10, 11, 12, 2, 23, 24, 25, 26, 27, 33, 34, 35, 36, 37, 38, 39, 40, 41, 42, 43, 44, 45, 46, 47, 48, 49, 50, 51, 52, 53, 54, 55, 56, 57] (by decide +kernel) (by decide +kernel)
set_option maxRecDepth 20000 in
theorem gX6_change_X6_pairs : GoodIn wsX6_change (wsV RX6 116 RX6 yX6_pairs wsX6_pairs) := goodIn_app (goodIn_of _ (by decide +kernel)) ggX6_change_X6_pairs
set_option maxRecDepth 20000 in
theorem ggX6_change_X6_round : GoodIn wsX6_change wsX6_round := goodIn_r _ [31, 32, 33, 34, 35, 36, 37, 38, 39, 40, 41, 42, 43, 44, 45, 46, 47, 48, 49, 50, 51, 52, 53, 54, 55, 56, 57] (by decide +kernel) (by decide +kernel)
set_option maxRecDepth 20000 in
theorem gX6_change_X6_round : GoodIn wsX6_change (wsV RX6 52 RX6 yX6_round wsX6_round) := goodIn_app (goodIn_of _ (by decide +kernel)) ggX6_change_X6_round
theorem dX6_change_0 : decode cX6_change 0 = .ok (.aload_n 0, 1) := by decide +kernel
theorem dX6_change_1 : decode cX6_change 1 = .ok (.aload_n 0, 1) := by decide +kernel
theorem dX6_change_2 : decode cX6_change 2 = .ok (.getfield 85, 3) := by decide +kernel
theorem dX6_change_5 : decode cX6_change 5 = .ok (.invokevirtual 56, 3) := by decide +kernel
theorem dX6_change_8 : decode cX6_change 8 = .ok (.ifCond .ne 8, 3) := by decide +kernel
theorem dX6_change_11 : decode cX6_change 11 = .ok (.aload_n 0, 1) := by decide +kernel
theorem dX6_change_12 : decode cX6_change 12 = .ok (.invokevirtual 82, 3) := by decide +kernel
theorem dX6_change_15 : decode cX6_change 15 = .ok (.return_, 1) := by decide +kernel
theorem dX6_change_16 : decode cX6_change 16 = .ok (.aload_n 0, 1) := by decide +kernel
theorem dX6_change_17 : decode cX6_change 17 = .ok (.invokevirtual 116, 3) := by decide +kernel
theorem dX6_change_20 : decode cX6_change 20 = .ok (.istore_n 1, 1) := by decide +kernel
theorem dX6_change_21 : decode cX6_change 21 = .ok (.aload_n 0, 1) := by decide +kernel
theorem dX6_change_22 : decode cX6_change 22 = .ok (.getfield 73, 3) := by decide +kernel
theorem dX6_change_25 : decode cX6_change 25 = .ok (.ifCond .eq 4, 3) := by decide +kernel
theorem dX6_change_28 : decode cX6_change 28 = .ok (.return_, 1) := by decide +kernel
theorem dX6_change_29 : decode cX6_change 29 = .ok (.iload_n 1, 1) := by decide +kernel
theorem dX6_change_30 : decode cX6_change 30 = .ok (.iconst (-1), 1) := by decide +kernel
theorem dX6_change_31 : decode cX6_change 31 = .ok (.if_icmp .eq 17, 3) := by decide +kernel
theorem dX6_change_34 : decode cX6_change 34 = .ok (.aload_n 0, 1) := by decide +kernel
theorem dX6_change_35 : decode cX6_change 35 = .ok (.getfield 7, 3) := by decide +kernel
theorem dX6_change_38 : decode cX6_change 38 = .ok (.aload_n 0, 1) := by decide +kernel
theorem dX6_change_39 : decode cX6_change 39 = .ok (.getfield 85, 3) := by decide +kernel
theorem dX6_change_42 : decode cX6_change 42 = .ok (.sipush 256, 3) := by decide +kernel
theorem dX6_change_45 : decode cX6_change 45 = .ok (.iload_n 1, 1) := by decide +kernel
theorem dX6_change_46 : decode cX6_change 46 = .ok (.iadd, 1) := by decide +kernel
theorem dX6_change_47 : decode cX6_change 47 = .ok (.iastore, 1) := by decide +kernel
theorem dX6_change_48 : decode cX6_change 48 = .ok (.aload_n 0, 1) := by decide +kernel
theorem dX6_change_49 : decode cX6_change 49 = .ok (.aload_n 0, 1) := by decide +kernel
theorem dX6_change_50 : decode cX6_change 50 = .ok (.aload_n 0, 1) := by decide +kernel
theorem dX6_change_51 : decode cX6_change 51 = .ok (.getfield 85, 3) := by decide +kernel
theorem dX6_change_54 : decode cX6_change 54 = .ok (.iconst 1, 1) := by decide +kernel
theorem dX6_change_55 : decode cX6_change 55 = .ok (.iadd, 1) := by decide +kernel
theorem dX6_change_56 : decode cX6_change 56 = .ok (.invokevirtual 52, 3) := by decide +kernel
theorem dX6_change_59 : decode cX6_change 59 = .ok (.putfield 85, 3) := by decide +kernel
theorem dX6_change_62 : decode cX6_change 62 = .ok (.return_, 1) := by decide +kernel
set_option maxRecDepth 20000 in
theorem ggX6_write_X6_lacks : GoodIn wsX6_write wsX6_lacks := goodIn_r _ [15, 9, 10, 16, 17, 18, 14, 19, 8, 85, 86, 87, 88, 89, 90, 91, 92, 93, 94, 95, 96, 97, 98, 99, 100, 101, 102, 103, 104, 105, 106, 107, 108, 109] (by decide +kernel) (by decide +kernel)
set_option maxRecDepth 20000 in
theorem gX6_write_X6_lacks : GoodIn wsX6_write (wsV RX6 88 RX6 yX6_lacks wsX6_lacks) := goodIn_app (goodIn_of _ (by decide +kernel)) ggX6_write_X6_lacks
set_option maxRecDepth 20000 in
theorem ggX6_write_X6_take : GoodIn wsX6_write wsX6_take := goodIn_r _ [23, 9, 24, 85, 86, 87, 88, 89, 90, 91, 92, 93, 94, 95, 96, 97, 98, 99, 100, 101, 102, 103, 104, 105, 106, 107, 108, 109] (by decide +kernel) (by decide +kernel)
set_option maxRecDepth 20000 in
theorem gX6_write_X6_take : GoodIn wsX6_write (wsV RX6 91 RX6 yX6_take wsX6_take) := goodIn_app (goodIn_of _ (by decide +kernel)) ggX6_write_X6_take
set_option maxRecDepth 20000 in
theorem ggX6_write_X6_isAttribute : GoodIn wsX6_write wsX6_isAttribute := goodIn_r _ [28, 2, 85, 86, 87, 88, 89, 90, 91, 92, 93, 94, 95, 96, 97, 98, 99, 100, 101, 102, 103, 104, 105, 106, 107, 108, 109] (by decide +kernel) (by decide +kernel)
set_option maxRecDepth 20000 in
theorem gX6_write_X6_isAttribute : GoodIn wsX6_write (wsV RX6 56 RX6 yX6_isAttribute wsX6_isAttribute) := goodIn_app (goodIn_of _ (by decide +kernel)) ggX6_write_X6_isAttribute
set_option maxRecDepth 20000 in
theorem ggX6_write_X6_isSign : GoodIn wsX6_write wsX6_isSign := goodIn_r _ [31] (by decide +kernel) (by decide +kernel)
set_option maxRecDepth 20000 in
theorem gX6_write_X6_isSign : GoodIn wsX6_write (va_wsS RX6 100 yX6_isSign wsX6_isSign) := goodIn_app (goodIn_of _ (by decide +kernel)) ggX6_write_X6_isSign
set_option maxRecDepth 20000 in
theorem ggX6_write_X6_put : GoodIn wsX6_write wsX6_put := goodIn_r _ [35, 2, 6, 36, 37, 38, 14, 39, 1, 85, 86, 87, 88, 89, 90, 91, 92, 93, 94, 95, 96, 97, 98, 99, 100, 101, 102, 103, 104, 105, 106, 107, 108, 109] (by decide +kernel) (by decide +kernel)
set_option maxRecDepth 20000 in
theorem gX6_write_X6_put : GoodIn wsX6_write (wsV RX6 103 RX6 yX6_put wsX6_put) := goodIn_app (goodIn_of _ (by decide +kernel)) ggX6_write_X6_put
set_option maxRecDepth 20000 in
theorem ggX6_write_X6_order : GoodIn wsX6_write wsX6_order := goodIn_r _ [43, 8, 6, 5, 44, 45, 46, 47, 14, 48, 7, 1, 2, 25, 26, 27, 28, 36, 37, 38, 39, 11, 12, 13, 15, 9, 10, 16, 17, 18, 19, 20, 21, 22, 23, 24, 29, 30, 31, 32, 33, 34, 35, 49, 50, 51, 52, 53, 54, 55, 56, 57, 58, 59, 60, 61, 62, 63, 64, 65, 66, 67, 68, 69, 70, 71, 72, 73, 74, 75, 76, 77, 78, 79, 80, 81, 82, 83, 84, 85, 86, 87, 88, 89, 90, 91, 92, 93, 94, 95, 96, 97, 98, 99, 100, 101, 102, 103, 104, 105, 106, 107, 108, 109] (by decide +kernel) (by decide +kernel)
set_option maxRecDepth 20000 in
theorem gX6_write_X6_order : GoodIn wsX6_write (wsV RX6 134 RX6 yX6_order wsX6_order) := goodIn_app (goodIn_of _ (by decide +kernel)) ggX6_write_X6_order
theorem dX6_write_0 : decode cX6_write 0 = .ok (.aload_n 0, 1) := by decide +kernel
theorem dX6_write_1 : decode cX6_write 1 = .ok (.iconst 1, 1) := by decide +kernel
theorem dX6_write_2 : decode cX6_write 2 = .ok (.invokevirtual 88, 3) := by decide +kernel
theorem dX6_write_5 : decode cX6_write 5 = .ok (.ifCond .eq 4, 3) := by decide +kernel
theorem dX6_write_8 : decode cX6_write 8 = .ok (.return_, 1) := by decide +kernel
theorem dX6_write_9 : decode cX6_write 9 = .ok (.aload_n 0, 1) := by decide +kernel
theorem dX6_write_10 : decode cX6_write 10 = .ok (.invokevirtual 91, 3) := by decide +kernel
theorem dX6_write_13 : decode cX6_write 13 = .ok (.istore_n 1, 1) := by decide +kernel
theorem dX6_write_14 : decode cX6_write 14 = .ok (.iload_n 1, 1) := by decide +kernel
theorem dX6_write_15 : decode cX6_write 15 = .ok (.iconst 1, 1) := by decide +kernel
theorem dX6_write_16 : decode cX6_write 16 = .ok (.iand, 1) := by decide +kernel
theorem dX6_write_17 : decode cX6_write 17 = .ok (.ifCond .eq 38, 3) := by decide +kernel
theorem dX6_write_20 : decode cX6_write 20 = .ok (.iconst 0, 1) := by decide +kernel
theorem dX6_write_21 : decode cX6_write 21 = .ok (.istore_n 2, 1) := by decide +kernel
theorem dX6_write_22 : decode cX6_write 22 = .ok (.iload_n 2, 1) := by decide +kernel
theorem dX6_write_23 : decode cX6_write 23 = .ok (.aload_n 0, 1) := by decide +kernel
theorem dX6_write_24 : decode cX6_write 24 = .ok (.getfield 46, 3) := by decide +kernel
theorem dX6_write_27 : decode cX6_write 27 = .ok (.if_icmp .ge 28, 3) := by decide +kernel
theorem dX6_write_30 : decode cX6_write 30 = .ok (.aload_n 0, 1) := by decide +kernel
theorem dX6_write_31 : decode cX6_write 31 = .ok (.iload_n 2, 1) := by decide +kernel
theorem dX6_write_32 : decode cX6_write 32 = .ok (.invokevirtual 56, 3) := by decide +kernel
theorem dX6_write_35 : decode cX6_write 35 = .ok (.ifCond .eq 14, 3) := by decide +kernel
theorem dX6_write_38 : decode cX6_write 38 = .ok (.aload_n 0, 1) := by decide +kernel
theorem dX6_write_39 : decode cX6_write 39 = .ok (.getfield 7, 3) := by decide +kernel
theorem dX6_write_42 : decode cX6_write 42 = .ok (.iload_n 2, 1) := by decide +kernel
theorem dX6_write_43 : decode cX6_write 43 = .ok (.dup2, 1) := by decide +kernel
theorem dX6_write_44 : decode cX6_write 44 = .ok (.iaload, 1) := by decide +kernel
theorem dX6_write_45 : decode cX6_write 45 = .ok (.bipush (-2), 2) := by decide +kernel
theorem dX6_write_47 : decode cX6_write 47 = .ok (.iand, 1) := by decide +kernel
theorem dX6_write_48 : decode cX6_write 48 = .ok (.iastore, 1) := by decide +kernel
theorem dX6_write_49 : decode cX6_write 49 = .ok (.iinc 2 1, 3) := by decide +kernel
theorem dX6_write_52 : decode cX6_write 52 = .ok (.goto (-30), 3) := by decide +kernel
theorem dX6_write_55 : decode cX6_write 55 = .ok (.aload_n 0, 1) := by decide +kernel
theorem dX6_write_56 : decode cX6_write 56 = .ok (.iload_n 1, 1) := by decide +kernel
theorem dX6_write_57 : decode cX6_write 57 = .ok (.iconst 2, 1) := by decide +kernel
theorem dX6_write_58 : decode cX6_write 58 = .ok (.iand, 1) := by decide +kernel
theorem dX6_write_59 : decode cX6_write 59 = .ok (.ifCond .eq 7, 3) := by decide +kernel
theorem dX6_write_62 : decode cX6_write 62 = .ok (.iconst 1, 1) := by decide +kernel
theorem dX6_write_63 : decode cX6_write 63 = .ok (.goto 4, 3) := by decide +kernel
theorem dX6_write_66 : decode cX6_write 66 = .ok (.iconst 0, 1) := by decide +kernel
theorem dX6_write_67 : decode cX6_write 67 = .ok (.putfield 128, 3) := by decide +kernel
theorem dX6_write_70 : decode cX6_write 70 = .ok (.iload_n 1, 1) := by decide +kernel
theorem dX6_write_71 : decode cX6_write 71 = .ok (.iconst 4, 1) := by decide +kernel
theorem dX6_write_72 : decode cX6_write 72 = .ok (.iand, 1) := by decide +kernel
theorem dX6_write_73 : decode cX6_write 73 = .ok (.ifCond .eq 13, 3) := by decide +kernel
theorem dX6_write_76 : decode cX6_write 76 = .ok (.aload_n 0, 1) := by decide +kernel
theorem dX6_write_77 : decode cX6_write 77 = .ok (.dup, 1) := by decide +kernel
theorem dX6_write_78 : decode cX6_write 78 = .ok (.getfield 131, 3) := by decide +kernel
theorem dX6_write_81 : decode cX6_write 81 = .ok (.iconst 1, 1) := by decide +kernel
theorem dX6_write_82 : decode cX6_write 82 = .ok (.iadd, 1) := by decide +kernel
theorem dX6_write_83 : decode cX6_write 83 = .ok (.putfield 131, 3) := by decide +kernel
theorem dX6_write_86 : decode cX6_write 86 = .ok (.aload_n 0, 1) := by decide +kernel
theorem dX6_write_87 : decode cX6_write 87 = .ok (.aload_n 0, 1) := by decide +kernel
theorem dX6_write_88 : decode cX6_write 88 = .ok (.getfield 49, 3) := by decide +kernel
theorem dX6_write_91 : decode cX6_write 91 = .ok (.putfield 85, 3) := by decide +kernel
theorem dX6_write_94 : decode cX6_write 94 = .ok (.aload_n 0, 1) := by decide +kernel
theorem dX6_write_95 : decode cX6_write 95 = .ok (.iconst 0, 1) := by decide +kernel
theorem dX6_write_96 : decode cX6_write 96 = .ok (.putfield 94, 3) := by decide +kernel
theorem dX6_write_99 : decode cX6_write 99 = .ok (.aload_n 0, 1) := by decide +kernel
theorem dX6_write_100 : decode cX6_write 100 = .ok (.getfield 73, 3) := by decide +kernel
theorem dX6_write_103 : decode cX6_write 103 = .ok (.ifCond .ne 63, 3) := by decide +kernel
theorem dX6_write_106 : decode cX6_write 106 = .ok (.aload_n 0, 1) := by decide +kernel
theorem dX6_write_107 : decode cX6_write 107 = .ok (.getfield 76, 3) := by decide +kernel
theorem dX6_write_110 : decode cX6_write 110 = .ok (.aload_n 0, 1) := by decide +kernel
theorem dX6_write_111 : decode cX6_write 111 = .ok (.getfield 79, 3) := by decide +kernel
theorem dX6_write_114 : decode cX6_write 114 = .ok (.if_icmp .ge 52, 3) := by decide +kernel
theorem dX6_write_117 : decode cX6_write 117 = .ok (.aload_n 0, 1) := by decide +kernel
theorem dX6_write_118 : decode cX6_write 118 = .ok (.invokevirtual 91, 3) := by decide +kernel
theorem dX6_write_121 : decode cX6_write 121 = .ok (.istore_n 2, 1) := by decide +kernel
theorem dX6_write_122 : decode cX6_write 122 = .ok (.iload_n 2, 1) := by decide +kernel
theorem dX6_write_123 : decode cX6_write 123 = .ok (.invokestatic 100, 3) := by decide +kernel
theorem dX6_write_126 : decode cX6_write 126 = .ok (.istore_n 3, 1) := by decide +kernel
theorem dX6_write_127 : decode cX6_write 127 = .ok (.iload_n 3, 1) := by decide +kernel
theorem dX6_write_128 : decode cX6_write 128 = .ok (.ifCond .eq 11, 3) := by decide +kernel
theorem dX6_write_131 : decode cX6_write 131 = .ok (.aload_n 0, 1) := by decide +kernel
theorem dX6_write_132 : decode cX6_write 132 = .ok (.iload_n 2, 1) := by decide +kernel
theorem dX6_write_133 : decode cX6_write 133 = .ok (.invokevirtual 103, 3) := by decide +kernel
theorem dX6_write_136 : decode cX6_write 136 = .ok (.goto 8, 3) := by decide +kernel
theorem dX6_write_139 : decode cX6_write 139 = .ok (.aload_n 0, 1) := by decide +kernel
theorem dX6_write_140 : decode cX6_write 140 = .ok (.iload_n 2, 1) := by decide +kernel
theorem dX6_write_141 : decode cX6_write 141 = .ok (.invokevirtual 134, 3) := by decide +kernel
theorem dX6_write_144 : decode cX6_write 144 = .ok (.aload_n 0, 1) := by decide +kernel
theorem dX6_write_145 : decode cX6_write 145 = .ok (.iload_n 3, 1) := by decide +kernel
theorem dX6_write_146 : decode cX6_write 146 = .ok (.ifCond .ne 9, 3) := by decide +kernel
theorem dX6_write_149 : decode cX6_write 149 = .ok (.iload_n 2, 1) := by decide +kernel
theorem dX6_write_150 : decode cX6_write 150 = .ok (.bipush 8, 2) := by decide +kernel
theorem dX6_write_152 : decode cX6_write 152 = .ok (.if_icmp .ne 7, 3) := by decide +kernel
theorem dX6_write_155 : decode cX6_write 155 = .ok (.iconst 1, 1) := by decide +kernel
theorem dX6_write_156 : decode cX6_write 156 = .ok (.goto 4, 3) := by decide +kernel
theorem dX6_write_159 : decode cX6_write 159 = .ok (.iconst 0, 1) := by decide +kernel
theorem dX6_write_160 : decode cX6_write 160 = .ok (.putfield 94, 3) := by decide +kernel
theorem dX6_write_163 : decode cX6_write 163 = .ok (.goto (-64), 3) := by decide +kernel
theorem dX6_write_166 : decode cX6_write 166 = .ok (.return_, 1) := by decide +kernel
set_option maxRecDepth 20000 in
theorem ggX6_eraseInput_X6_mayBeTyped : GoodIn wsX6_eraseInput wsX6_mayBeTyped := goodIn_r _ [9, 10, 11, 12, 8, 13, 2, 14, 15, 16, 17, 18, 19, 20, 21, 22, 23, 24, 25, 1, 26, 27, 28, 29, 30, 31, 32, 33, 34, 35, 36, 37, 38, 39, 40, 41, 42, 43, 44, 45, 46, 47, 48, 49, 50, 51, 52, 53, 54] (by decide +kernel) (by decide +kernel)
set_option maxRecDepth 20000 in
theorem gX6_eraseInput_X6_mayBeTyped : GoodIn wsX6_eraseInput (wsV RX6 107 RX6 yX6_mayBeTyped wsX6_mayBeTyped) := goodIn_app (goodIn_of _ (by decide +kernel)) ggX6_eraseInput_X6_mayBeTyped
set_option maxRecDepth 20000 in
theorem ggX6_eraseInput_X6_isAttribute : GoodIn wsX6_eraseInput wsX6_isAttribute := goodIn_r _ [13, 2, 30, 31, 32, 33, 34, 35, 36, 37, 38, 39, 40, 41, 42, 43, 44, 45, 46, 47, 48, 49, 50, 51, 52, 53, 54] (by decide +kernel) (by decide +kernel)
set_option maxRecDepth 20000 in
theorem gX6_eraseInput_X6_isAttribute : GoodIn wsX6_eraseInput (wsV RX6 56 RX6 yX6_isAttribute wsX6_isAttribute) := goodIn_app (goodIn_of _ (by decide +kernel)) ggX6_eraseInput_X6_isAttribute
theorem dX6_eraseInput_0 : decode cX6_eraseInput 0 = .ok (.iconst (-1), 1) := by decide +kernel
theorem dX6_eraseInput_1 : decode cX6_eraseInput 1 = .ok (.istore_n 1, 1) := by decide +kernel
theorem dX6_eraseInput_2 : decode cX6_eraseInput 2 = .ok (.aload_n 0, 1) := by decide +kernel
theorem dX6_eraseInput_3 : decode cX6_eraseInput 3 = .ok (.getfield 46, 3) := by decide +kernel
theorem dX6_eraseInput_6 : decode cX6_eraseInput 6 = .ok (.iconst 1, 1) := by decide +kernel
theorem dX6_eraseInput_7 : decode cX6_eraseInput 7 = .ok (.isub, 1) := by decide +kernel
theorem dX6_eraseInput_8 : decode cX6_eraseInput 8 = .ok (.istore_n 2, 1) := by decide +kernel
theorem dX6_eraseInput_9 : decode cX6_eraseInput 9 = .ok (.iload_n 2, 1) := by decide +kernel
theorem dX6_eraseInput_10 : decode cX6_eraseInput 10 = .ok (.ifCond .lt 26, 3) := by decide +kernel
theorem dX6_eraseInput_13 : decode cX6_eraseInput 13 = .ok (.aload_n 0, 1) := by decide +kernel
theorem dX6_eraseInput_14 : decode cX6_eraseInput 14 = .ok (.iload_n 2, 1) := by decide +kernel
theorem dX6_eraseInput_15 : decode cX6_eraseInput 15 = .ok (.invokevirtual 107, 3) := by decide +kernel
theorem dX6_eraseInput_18 : decode cX6_eraseInput 18 = .ok (.ifCond .eq 12, 3) := by decide +kernel
theorem dX6_eraseInput_21 : decode cX6_eraseInput 21 = .ok (.aload_n 0, 1) := by decide +kernel
theorem dX6_eraseInput_22 : decode cX6_eraseInput 22 = .ok (.getfield 7, 3) := by decide +kernel
theorem dX6_eraseInput_25 : decode cX6_eraseInput 25 = .ok (.iload_n 2, 1) := by decide +kernel
theorem dX6_eraseInput_26 : decode cX6_eraseInput 26 = .ok (.iconst 0, 1) := by decide +kernel
theorem dX6_eraseInput_27 : decode cX6_eraseInput 27 = .ok (.iastore, 1) := by decide +kernel
theorem dX6_eraseInput_28 : decode cX6_eraseInput 28 = .ok (.iload_n 2, 1) := by decide +kernel
theorem dX6_eraseInput_29 : decode cX6_eraseInput 29 = .ok (.istore_n 1, 1) := by decide +kernel
theorem dX6_eraseInput_30 : decode cX6_eraseInput 30 = .ok (.iinc 2 (-1), 3) := by decide +kernel
theorem dX6_eraseInput_33 : decode cX6_eraseInput 33 = .ok (.goto (-24), 3) := by decide +kernel
theorem dX6_eraseInput_36 : decode cX6_eraseInput 36 = .ok (.iconst 0, 1) := by decide +kernel
theorem dX6_eraseInput_37 : decode cX6_eraseInput 37 = .ok (.istore_n 2, 1) := by decide +kernel
theorem dX6_eraseInput_38 : decode cX6_eraseInput 38 = .ok (.iload_n 2, 1) := by decide +kernel
theorem dX6_eraseInput_39 : decode cX6_eraseInput 39 = .ok (.aload_n 0, 1) := by decide +kernel
theorem dX6_eraseInput_40 : decode cX6_eraseInput 40 = .ok (.getfield 46, 3) := by decide +kernel
theorem dX6_eraseInput_43 : decode cX6_eraseInput 43 = .ok (.if_icmp .ge 40, 3) := by decide +kernel
theorem dX6_eraseInput_46 : decode cX6_eraseInput 46 = .ok (.aload_n 0, 1) := by decide +kernel
theorem dX6_eraseInput_47 : decode cX6_eraseInput 47 = .ok (.iload_n 2, 1) := by decide +kernel
theorem dX6_eraseInput_48 : decode cX6_eraseInput 48 = .ok (.invokevirtual 56, 3) := by decide +kernel
theorem dX6_eraseInput_51 : decode cX6_eraseInput 51 = .ok (.ifCond .eq 26, 3) := by decide +kernel
theorem dX6_eraseInput_54 : decode cX6_eraseInput 54 = .ok (.aload_n 0, 1) := by decide +kernel
theorem dX6_eraseInput_55 : decode cX6_eraseInput 55 = .ok (.getfield 7, 3) := by decide +kernel
theorem dX6_eraseInput_58 : decode cX6_eraseInput 58 = .ok (.iload_n 2, 1) := by decide +kernel
theorem dX6_eraseInput_59 : decode cX6_eraseInput 59 = .ok (.iaload, 1) := by decide +kernel
theorem dX6_eraseInput_60 : decode cX6_eraseInput 60 = .ok (.bipush 32, 2) := by decide +kernel
theorem dX6_eraseInput_62 : decode cX6_eraseInput 62 = .ok (.iand, 1) := by decide +kernel
theorem dX6_eraseInput_63 : decode cX6_eraseInput 63 = .ok (.ifCond .ne 14, 3) := by decide +kernel
theorem dX6_eraseInput_66 : decode cX6_eraseInput 66 = .ok (.aload_n 0, 1) := by decide +kernel
theorem dX6_eraseInput_67 : decode cX6_eraseInput 67 = .ok (.getfield 7, 3) := by decide +kernel
theorem dX6_eraseInput_70 : decode cX6_eraseInput 70 = .ok (.iload_n 2, 1) := by decide +kernel
theorem dX6_eraseInput_71 : decode cX6_eraseInput 71 = .ok (.dup2, 1) := by decide +kernel
theorem dX6_eraseInput_72 : decode cX6_eraseInput 72 = .ok (.iaload, 1) := by decide +kernel
theorem dX6_eraseInput_73 : decode cX6_eraseInput 73 = .ok (.bipush (-2), 2) := by decide +kernel
theorem dX6_eraseInput_75 : decode cX6_eraseInput 75 = .ok (.iand, 1) := by decide +kernel
theorem dX6_eraseInput_76 : decode cX6_eraseInput 76 = .ok (.iastore, 1) := by decide +kernel
theorem dX6_eraseInput_77 : decode cX6_eraseInput 77 = .ok (.iinc 2 1, 3) := by decide +kernel
theorem dX6_eraseInput_80 : decode cX6_eraseInput 80 = .ok (.goto (-42), 3) := by decide +kernel
theorem dX6_eraseInput_83 : decode cX6_eraseInput 83 = .ok (.aload_n 0, 1) := by decide +kernel
theorem dX6_eraseInput_84 : decode cX6_eraseInput 84 = .ok (.iload_n 1, 1) := by decide +kernel
theorem dX6_eraseInput_85 : decode cX6_eraseInput 85 = .ok (.iconst (-1), 1) := by decide +kernel
theorem dX6_eraseInput_86 : decode cX6_eraseInput 86 = .ok (.if_icmp .ne 7, 3) := by decide +kernel
theorem dX6_eraseInput_89 : decode cX6_eraseInput 89 = .ok (.iconst 0, 1) := by decide +kernel
theorem dX6_eraseInput_90 : decode cX6_eraseInput 90 = .ok (.goto 4, 3) := by decide +kernel
theorem dX6_eraseInput_93 : decode cX6_eraseInput 93 = .ok (.iload_n 1, 1) := by decide +kernel
theorem dX6_eraseInput_94 : decode cX6_eraseInput 94 = .ok (.putfield 49, 3) := by decide +kernel
theorem dX6_eraseInput_97 : decode cX6_eraseInput 97 = .ok (.aload_n 0, 1) := by decide +kernel
theorem dX6_eraseInput_98 : decode cX6_eraseInput 98 = .ok (.iconst 0, 1) := by decide +kernel
theorem dX6_eraseInput_99 : decode cX6_eraseInput 99 = .ok (.putfield 137, 3) := by decide +kernel
theorem dX6_eraseInput_102 : decode cX6_eraseInput 102 = .ok (.return_, 1) := by decide +kernel
set_option maxRecDepth 20000 in
theorem ggX6_perform_X6_take : GoodIn wsX6_perform wsX6_take := goodIn_r _ [14, 1, 15, 134, 135, 136, 137, 138, 139, 140, 141, 142, 143, 144, 145, 146, 147, 148, 149, 150, 151, 152, 153, 154, 155, 156, 157, 158] (by decide +kernel) (by decide +kernel)
set_option maxRecDepth 20000 in
theorem gX6_perform_X6_take : GoodIn wsX6_perform (wsV RX6 91 RX6 yX6_take wsX6_take) := goodIn_app (goodIn_of _ (by decide +kernel)) ggX6_perform_X6_take
set_option maxRecDepth 20000 in
theorem ggX6_perform_X6_use : GoodIn wsX6_perform wsX6_use := goodIn_r _ [19, 20, 21, 22, 23, 24, 25, 26, 134, 135, 136, 137, 138, 139, 140, 141, 142, 143, 144, 145, 146, 147, 148, 149, 150, 151, 152, 153, 154, 155, 156, 157, 158] (by decide +kernel) (by decide +kernel)
set_option maxRecDepth 20000 in
theorem gX6_perform_X6_use : GoodIn wsX6_perform (wsV RX6 33 RX6 yX6_use wsX6_use) := goodIn_app (goodIn_of _ (by decide +kernel)) ggX6_perform_X6_use
set_option maxRecDepth 20000 in
theorem ggX6_perform_X6_write : GoodIn wsX6_perform wsX6_write := goodIn_r _ [30, 24, 26, 4, 31, 25, 32, 33, 3, 1, 5, 34, 35, 36, 13, 37, 38, 39, 40, 41, 10, 11, 12, 14, 15, 42, 43, 44, 45, 46, 47, 48, 49, 50, 51, 52, 53, 54, 55, 56, 57, 58, 59, 60, 2, 61, 62, 63, 64, 65, 66, 67, 68, 69, 70, 71, 72, 73, 74, 75, 76, 77, 78, 79, 80, 81, 82, 83, 84, 85, 86, 87, 88, 89, 90, 91, 92, 93, 94, 95, 96, 97, 98, 99, 100, 134, 135, 136, 137, 138, 139, 140, 141, 142, 143, 144, 145, 146, 147, 148, 149, 150, 151, 152, 153, 154, 155, 156, 157, 158] (by decide +kernel) (by decide +kernel)
set_option maxRecDepth 20000 in
theorem gX6_perform_X6_write : GoodIn wsX6_perform (wsV RX6 140 RX6 yX6_write wsX6_write) := goodIn_app (goodIn_of _ (by decide +kernel)) ggX6_perform_X6_write
set_option maxRecDepth 20000 in
theorem ggX6_perform_X6_eraseInput : GoodIn wsX6_perform wsX6_eraseInput := goodIn_r _ [104, 24, 26, 25, 9, 73, 74, 75, 13, 76, 42, 43, 44, 45, 77, 78, 79, 80, 81, 82, 83, 84, 85, 86, 87, 88, 53, 54, 55, 56, 134, 135, 136, 137, 138, 139, 140, 141, 142, 143, 144, 145, 146, 147, 148, 149, 150, 151, 152, 153, 154, 155, 156, 157, 158] (by decide +kernel) (by decide +kernel)
set_option maxRecDepth 20000 in
theorem gX6_perform_X6_eraseInput : GoodIn wsX6_perform (wsV RX6 143 RX6 yX6_eraseInput wsX6_eraseInput) := goodIn_app (goodIn_of _ (by decide +kernel)) ggX6_perform_X6_eraseInput
set_option maxRecDepth 20000 in
theorem ggX6_perform_X6_answer : GoodIn wsX6_perform wsX6_answer := goodIn_r _ [108, 9, 25, 24, 26, 109, 110, 111, 13, 112, 113, 114, 115, 116, 117, 118, 119, 120, 121, 42, 43, 44, 45, 122, 123, 124, 125, 53, 54, 55, 56, 126, 127, 128, 129, 134, 135, 136, 137, 138, 139, 140, 141, 142, 143, 144, 145, 146, 147, 148, 149, 150, 151, 152, 153, 154, 155, 156, 157, 158] (by decide +kernel) (by decide +kernel)
set_option maxRecDepth 20000 in
theorem gX6_perform_X6_answer : GoodIn wsX6_perform (wsV RX6 146 RX6 yX6_answer wsX6_answer) := goodIn_app (goodIn_of _ (by decide +kernel)) ggX6_perform_X6_answer
set_option maxRecDepth 20000 in
theorem ggX6_perform_X6_rejected : GoodIn wsX6_perform wsX6_rejected := goodIn_r _ [41, 3, 134, 135, 136, 137, 138, 139, 140, 141, 142, 143, 144, 145, 146, 147, 148, 149, 150, 151, 152, 153, 154, 155, 156, 157, 158] (by decide +kernel) (by decide +kernel)
set_option maxRecDepth 20000 in
theorem gX6_perform_X6_rejected : GoodIn wsX6_perform (wsV RX6 82 RX6 yX6_rejected wsX6_rejected) := goodIn_app (goodIn_of _ (by decide +kernel)) ggX6_perform_X6_rejected
set_option maxRecDepth 20000 in
theorem ggX6_perform_X6_lock : GoodIn wsX6_perform wsX6_lock := goodIn_r _ [133, 6, 134, 135, 136, 137, 138, 139, 140, 141, 142, 143, 144, 145, 146, 147, 148, 149, 150, 151, 152, 153, 154, 155, 156, 157, 158] (by decide +kernel) (by decide +kernel)
set_option maxRecDepth 20000 in
theorem gX6_perform_X6_lock : GoodIn wsX6_perform (wsV RX6 153 RX6 yX6_lock wsX6_lock) := goodIn_app (goodIn_of _ (by decide +kernel)) ggX6_perform_X6_lock
theorem dX6_perform_0 : decode cX6_perform 0 = .ok (.aload_n 0, 1) := by decide +kernel
theorem dX6_perform_1 : decode cX6_perform 1 = .ok (.iconst 0, 1) := by decide +kernel
theorem dX6_perform_2 : decode cX6_perform 2 = .ok (.putfield 76, 3) := by decide +kernel
theorem dX6_perform_5 : decode cX6_perform 5 = .ok (.aload_n 0, 1) := by decide +kernel
theorem dX6_perform_6 : decode cX6_perform 6 = .ok (.iconst 0, 1) := by decide +kernel
theorem dX6_perform_7 : decode cX6_perform 7 = .ok (.putfield 125, 3) := by decide +kernel
theorem dX6_perform_10 : decode cX6_perform 10 = .ok (.aload_n 0, 1) := by decide +kernel
theorem dX6_perform_11 : decode cX6_perform 11 = .ok (.iconst 0, 1) := by decide +kernel
theorem dX6_perform_12 : decode cX6_perform 12 = .ok (.putfield 73, 3) := by decide +kernel
theorem dX6_perform_15 : decode cX6_perform 15 = .ok (.aload_n 0, 1) := by decide +kernel
theorem dX6_perform_16 : decode cX6_perform 16 = .ok (.iconst 0, 1) := by decide +kernel
theorem dX6_perform_17 : decode cX6_perform 17 = .ok (.putfield 128, 3) := by decide +kernel
theorem dX6_perform_20 : decode cX6_perform 20 = .ok (.aload_n 0, 1) := by decide +kernel
theorem dX6_perform_21 : decode cX6_perform 21 = .ok (.getfield 79, 3) := by decide +kernel
theorem dX6_perform_24 : decode cX6_perform 24 = .ok (.ifCond .ne 7, 3) := by decide +kernel
theorem dX6_perform_27 : decode cX6_perform 27 = .ok (.iconst (-1), 1) := by decide +kernel
theorem dX6_perform_28 : decode cX6_perform 28 = .ok (.goto 7, 3) := by decide +kernel
theorem dX6_perform_31 : decode cX6_perform 31 = .ok (.aload_n 0, 1) := by decide +kernel
theorem dX6_perform_32 : decode cX6_perform 32 = .ok (.invokevirtual 91, 3) := by decide +kernel
theorem dX6_perform_35 : decode cX6_perform 35 = .ok (.istore_n 2, 1) := by decide +kernel
theorem dX6_perform_36 : decode cX6_perform 36 = .ok (.iload_n 2, 1) := by decide +kernel
theorem dX6_perform_37 : decode cX6_perform 37 = .ok (.sipush 242, 3) := by decide +kernel
theorem dX6_perform_40 : decode cX6_perform 40 = .ok (.if_icmp .eq 16, 3) := by decide +kernel
theorem dX6_perform_43 : decode cX6_perform 43 = .ok (.iload_n 2, 1) := by decide +kernel
theorem dX6_perform_44 : decode cX6_perform 44 = .ok (.sipush 246, 3) := by decide +kernel
theorem dX6_perform_47 : decode cX6_perform 47 = .ok (.if_icmp .eq 9, 3) := by decide +kernel
theorem dX6_perform_50 : decode cX6_perform 50 = .ok (.iload_n 2, 1) := by decide +kernel
theorem dX6_perform_51 : decode cX6_perform 51 = .ok (.bipush 110, 2) := by decide +kernel
theorem dX6_perform_53 : decode cX6_perform 53 = .ok (.if_icmp .ne 7, 3) := by decide +kernel
theorem dX6_perform_56 : decode cX6_perform 56 = .ok (.iconst 1, 1) := by decide +kernel
theorem dX6_perform_57 : decode cX6_perform 57 = .ok (.goto 4, 3) := by decide +kernel
theorem dX6_perform_60 : decode cX6_perform 60 = .ok (.iconst 0, 1) := by decide +kernel
theorem dX6_perform_61 : decode cX6_perform 61 = .ok (.istore_n 3, 1) := by decide +kernel
theorem dX6_perform_62 : decode cX6_perform 62 = .ok (.iload_n 2, 1) := by decide +kernel
theorem dX6_perform_63 : decode cX6_perform 63 = .ok (.sipush 245, 3) := by decide +kernel
theorem dX6_perform_66 : decode cX6_perform 66 = .ok (.if_icmp .eq 9, 3) := by decide +kernel
theorem dX6_perform_69 : decode cX6_perform 69 = .ok (.iload_n 2, 1) := by decide +kernel
theorem dX6_perform_70 : decode cX6_perform 70 = .ok (.bipush 126, 2) := by decide +kernel
theorem dX6_perform_72 : decode cX6_perform 72 = .ok (.if_icmp .ne 19, 3) := by decide +kernel
theorem dX6_perform_75 : decode cX6_perform 75 = .ok (.aload_n 0, 1) := by decide +kernel
theorem dX6_perform_76 : decode cX6_perform 76 = .ok (.iload_n 2, 1) := by decide +kernel
theorem dX6_perform_77 : decode cX6_perform 77 = .ok (.sipush 245, 3) := by decide +kernel
theorem dX6_perform_80 : decode cX6_perform 80 = .ok (.if_icmp .ne 7, 3) := by decide +kernel
theorem dX6_perform_83 : decode cX6_perform 83 = .ok (.iconst 1, 1) := by decide +kernel
theorem dX6_perform_84 : decode cX6_perform 84 = .ok (.goto 4, 3) := by decide +kernel
theorem dX6_perform_87 : decode cX6_perform 87 = .ok (.iconst 0, 1) := by decide +kernel
theorem dX6_perform_88 : decode cX6_perform 88 = .ok (.invokevirtual 33, 3) := by decide +kernel
theorem dX6_perform_91 : decode cX6_perform 91 = .ok (.iload_n 2, 1) := by decide +kernel
theorem dX6_perform_92 : decode cX6_perform 92 = .ok (.sipush 245, 3) := by decide +kernel
theorem dX6_perform_95 : decode cX6_perform 95 = .ok (.if_icmp .eq 16, 3) := by decide +kernel
theorem dX6_perform_98 : decode cX6_perform 98 = .ok (.iload_n 2, 1) := by decide +kernel
theorem dX6_perform_99 : decode cX6_perform 99 = .ok (.bipush 126, 2) := by decide +kernel
theorem dX6_perform_101 : decode cX6_perform 101 = .ok (.if_icmp .eq 10, 3) := by decide +kernel
theorem dX6_perform_104 : decode cX6_perform 104 = .ok (.iload_n 2, 1) := by decide +kernel
theorem dX6_perform_105 : decode cX6_perform 105 = .ok (.sipush 241, 3) := by decide +kernel
theorem dX6_perform_108 : decode cX6_perform 108 = .ok (.if_icmp .ne 10, 3) := by decide +kernel
theorem dX6_perform_111 : decode cX6_perform 111 = .ok (.aload_n 0, 1) := by decide +kernel
theorem dX6_perform_112 : decode cX6_perform 112 = .ok (.invokevirtual 140, 3) := by decide +kernel
theorem dX6_perform_115 : decode cX6_perform 115 = .ok (.goto 67, 3) := by decide +kernel
theorem dX6_perform_118 : decode cX6_perform 118 = .ok (.iload_n 2, 1) := by decide +kernel
theorem dX6_perform_119 : decode cX6_perform 119 = .ok (.bipush 111, 2) := by decide +kernel
theorem dX6_perform_121 : decode cX6_perform 121 = .ok (.if_icmp .ne 15, 3) := by decide +kernel
theorem dX6_perform_124 : decode cX6_perform 124 = .ok (.aload_n 0, 1) := by decide +kernel
theorem dX6_perform_125 : decode cX6_perform 125 = .ok (.invokevirtual 143, 3) := by decide +kernel
theorem dX6_perform_128 : decode cX6_perform 128 = .ok (.aload_n 0, 1) := by decide +kernel
theorem dX6_perform_129 : decode cX6_perform 129 = .ok (.iconst 0, 1) := by decide +kernel
theorem dX6_perform_130 : decode cX6_perform 130 = .ok (.putfield 13, 3) := by decide +kernel
theorem dX6_perform_133 : decode cX6_perform 133 = .ok (.goto 49, 3) := by decide +kernel
theorem dX6_perform_136 : decode cX6_perform 136 = .ok (.iload_n 3, 1) := by decide +kernel
theorem dX6_perform_137 : decode cX6_perform 137 = .ok (.ifCond .eq 41, 3) := by decide +kernel
theorem dX6_perform_140 : decode cX6_perform 140 = .ok (.aload_n 0, 1) := by decide +kernel
theorem dX6_perform_141 : decode cX6_perform 141 = .ok (.getfield 76, 3) := by decide +kernel
theorem dX6_perform_144 : decode cX6_perform 144 = .ok (.aload_n 0, 1) := by decide +kernel
theorem dX6_perform_145 : decode cX6_perform 145 = .ok (.getfield 79, 3) := by decide +kernel
theorem dX6_perform_148 : decode cX6_perform 148 = .ok (.if_icmp .ne 30, 3) := by decide +kernel
theorem dX6_perform_151 : decode cX6_perform 151 = .ok (.iload_n 1, 1) := by decide +kernel
theorem dX6_perform_152 : decode cX6_perform 152 = .ok (.ifCond .ne 26, 3) := by decide +kernel
theorem dX6_perform_155 : decode cX6_perform 155 = .ok (.aload_n 0, 1) := by decide +kernel
theorem dX6_perform_156 : decode cX6_perform 156 = .ok (.aload_n 0, 1) := by decide +kernel
theorem dX6_perform_157 : decode cX6_perform 157 = .ok (.getfield 17, 3) := by decide +kernel
theorem dX6_perform_160 : decode cX6_perform 160 = .ok (.iload_n 2, 1) := by decide +kernel
theorem dX6_perform_161 : decode cX6_perform 161 = .ok (.sipush 242, 3) := by decide +kernel
theorem dX6_perform_164 : decode cX6_perform 164 = .ok (.if_icmp .ne 7, 3) := by decide +kernel
theorem dX6_perform_167 : decode cX6_perform 167 = .ok (.iconst 1, 1) := by decide +kernel
theorem dX6_perform_168 : decode cX6_perform 168 = .ok (.goto 4, 3) := by decide +kernel
theorem dX6_perform_171 : decode cX6_perform 171 = .ok (.iconst 0, 1) := by decide +kernel
theorem dX6_perform_172 : decode cX6_perform 172 = .ok (.invokevirtual 146, 3) := by decide +kernel
theorem dX6_perform_175 : decode cX6_perform 175 = .ok (.goto 7, 3) := by decide +kernel
theorem dX6_perform_178 : decode cX6_perform 178 = .ok (.aload_n 0, 1) := by decide +kernel
theorem dX6_perform_179 : decode cX6_perform 179 = .ok (.invokevirtual 82, 3) := by decide +kernel
theorem dX6_perform_182 : decode cX6_perform 182 = .ok (.aload_n 0, 1) := by decide +kernel
theorem dX6_perform_183 : decode cX6_perform 183 = .ok (.getfield 73, 3) := by decide +kernel
theorem dX6_perform_186 : decode cX6_perform 186 = .ok (.ifCond .ne 18, 3) := by decide +kernel
theorem dX6_perform_189 : decode cX6_perform 189 = .ok (.aload_n 0, 1) := by decide +kernel
theorem dX6_perform_190 : decode cX6_perform 190 = .ok (.getfield 76, 3) := by decide +kernel
theorem dX6_perform_193 : decode cX6_perform 193 = .ok (.aload_n 0, 1) := by decide +kernel
theorem dX6_perform_194 : decode cX6_perform 194 = .ok (.getfield 79, 3) := by decide +kernel
theorem dX6_perform_197 : decode cX6_perform 197 = .ok (.if_icmp .ge 7, 3) := by decide +kernel
theorem dX6_perform_200 : decode cX6_perform 200 = .ok (.aload_n 0, 1) := by decide +kernel
theorem dX6_perform_201 : decode cX6_perform 201 = .ok (.invokevirtual 82, 3) := by decide +kernel
theorem dX6_perform_204 : decode cX6_perform 204 = .ok (.iload_n 1, 1) := by decide +kernel
theorem dX6_perform_205 : decode cX6_perform 205 = .ok (.ifCond .eq 8, 3) := by decide +kernel
theorem dX6_perform_208 : decode cX6_perform 208 = .ok (.aload_n 0, 1) := by decide +kernel
theorem dX6_perform_209 : decode cX6_perform 209 = .ok (.iconst 1, 1) := by decide +kernel
theorem dX6_perform_210 : decode cX6_perform 210 = .ok (.putfield 73, 3) := by decide +kernel
theorem dX6_perform_213 : decode cX6_perform 213 = .ok (.aload_n 0, 1) := by decide +kernel
theorem dX6_perform_214 : decode cX6_perform 214 = .ok (.getfield 73, 3) := by decide +kernel
theorem dX6_perform_217 : decode cX6_perform 217 = .ok (.ifCond .eq 20, 3) := by decide +kernel
theorem dX6_perform_220 : decode cX6_perform 220 = .ok (.aload_n 0, 1) := by decide +kernel
theorem dX6_perform_221 : decode cX6_perform 221 = .ok (.dup, 1) := by decide +kernel
theorem dX6_perform_222 : decode cX6_perform 222 = .ok (.getfield 150, 3) := by decide +kernel
theorem dX6_perform_225 : decode cX6_perform 225 = .ok (.iconst 1, 1) := by decide +kernel
theorem dX6_perform_226 : decode cX6_perform 226 = .ok (.iadd, 1) := by decide +kernel
theorem dX6_perform_227 : decode cX6_perform 227 = .ok (.putfield 150, 3) := by decide +kernel
theorem dX6_perform_230 : decode cX6_perform 230 = .ok (.aload_n 0, 1) := by decide +kernel
theorem dX6_perform_231 : decode cX6_perform 231 = .ok (.invokevirtual 153, 3) := by decide +kernel
theorem dX6_perform_234 : decode cX6_perform 234 = .ok (.goto 20, 3) := by decide +kernel
theorem dX6_perform_237 : decode cX6_perform 237 = .ok (.aload_n 0, 1) := by decide +kernel
theorem dX6_perform_238 : decode cX6_perform 238 = .ok (.getfield 128, 3) := by decide +kernel
theorem dX6_perform_241 : decode cX6_perform 241 = .ok (.ifCond .eq 13, 3) := by decide +kernel
theorem dX6_perform_244 : decode cX6_perform 244 = .ok (.aload_n 0, 1) := by decide +kernel
theorem dX6_perform_245 : decode cX6_perform 245 = .ok (.iconst 0, 1) := by decide +kernel
theorem dX6_perform_246 : decode cX6_perform 246 = .ok (.putfield 13, 3) := by decide +kernel
theorem dX6_perform_249 : decode cX6_perform 249 = .ok (.aload_n 0, 1) := by decide +kernel
theorem dX6_perform_250 : decode cX6_perform 250 = .ok (.iconst 0, 1) := by decide +kernel
theorem dX6_perform_251 : decode cX6_perform 251 = .ok (.putfield 137, 3) := by decide +kernel
theorem dX6_perform_254 : decode cX6_perform 254 = .ok (.return_, 1) := by decide +kernel
set_option maxRecDepth 20000 in
theorem ggX6_out_X6_perform : GoodIn wsX6_out wsX6_perform := goodIn_r _ [12, 13, 6, 5, 14, 4, 15, 16, 17, 18, 19, 20, 21, 11, 22, 7, 23, 24, 25, 26, 27, 28, 29, 30, 31, 32, 33, 34, 35, 36, 37, 38, 39, 40, 41, 42, 43, 44, 45, 46, 47, 48, 49, 50, 51, 52, 53, 54, 55, 56, 57, 58, 59, 60, 61, 62, 63, 64, 65, 66, 67, 68, 69, 70, 71, 72, 73, 74, 75, 76, 77, 78, 79, 80, 81, 82, 83, 84, 85, 86, 87, 88, 89, 90, 91, 92, 93, 94, 95, 96, 97, 98, 99, 100, 101, 102, 103, 104, 105, 106, 107, 108, 109, 110, 111, 112, 113, 114, 115, 116, 117, 118, 119, 120, 121, 122, 123, 124, 125, 126, 127, 128, 129, 130, 131, 132, 133, 134, 135, 136, 137, 138, 139, 140, 141, 142, 143, 144, 145, 146, 147, 148, 149, 150, 151, 152, 153, 154, 155, 156, 157, 158, 159, 160, 161, 162, 163, 164, 165] (by decide +kernel) (by decide +kernel)
set_option maxRecDepth 20000 in
theorem gX6_out_X6_perform : GoodIn wsX6_out (wsV RX6 162 RX6 yX6_perform wsX6_perform) := goodIn_app (goodIn_of _ (by decide +kernel)) ggX6_out_X6_perform
theorem dX6_out_0 : decode cX6_out 0 = .ok (.aload_n 0, 1) := by decide +kernel
theorem dX6_out_1 : decode cX6_out 1 = .ok (.iconst 0, 1) := by decide +kernel
theorem dX6_out_2 : decode cX6_out 2 = .ok (.putfield 37, 3) := by decide +kernel
theorem dX6_out_5 : decode cX6_out 5 = .ok (.iload_n 1, 1) := by decide +kernel
theorem dX6_out_6 : decode cX6_out 6 = .ok (.sipush 255, 3) := by decide +kernel
theorem dX6_out_9 : decode cX6_out 9 = .ok (.iand, 1) := by decide +kernel
theorem dX6_out_10 : decode cX6_out 10 = .ok (.istore_n 2, 1) := by decide +kernel
theorem dX6_out_11 : decode cX6_out 11 = .ok (.aload_n 0, 1) := by decide +kernel
theorem dX6_out_12 : decode cX6_out 12 = .ok (.getfield 156, 3) := by decide +kernel
theorem dX6_out_15 : decode cX6_out 15 = .ok (.ifCond .eq 53, 3) := by decide +kernel
theorem dX6_out_18 : decode cX6_out 18 = .ok (.iload_n 2, 1) := by decide +kernel
theorem dX6_out_19 : decode cX6_out 19 = .ok (.sipush 239, 3) := by decide +kernel
theorem dX6_out_22 : decode cX6_out 22 = .ok (.if_icmp .ne 46, 3) := by decide +kernel
theorem dX6_out_25 : decode cX6_out 25 = .ok (.aload_n 0, 1) := by decide +kernel
theorem dX6_out_26 : decode cX6_out 26 = .ok (.getfield 159, 3) := by decide +kernel
theorem dX6_out_29 : decode cX6_out 29 = .ok (.istore_n 3, 1) := by decide +kernel
theorem dX6_out_30 : decode cX6_out 30 = .ok (.aload_n 0, 1) := by decide +kernel
theorem dX6_out_31 : decode cX6_out 31 = .ok (.iconst 0, 1) := by decide +kernel
theorem dX6_out_32 : decode cX6_out 32 = .ok (.putfield 156, 3) := by decide +kernel
theorem dX6_out_35 : decode cX6_out 35 = .ok (.aload_n 0, 1) := by decide +kernel
theorem dX6_out_36 : decode cX6_out 36 = .ok (.iconst 0, 1) := by decide +kernel
theorem dX6_out_37 : decode cX6_out 37 = .ok (.putfield 159, 3) := by decide +kernel
theorem dX6_out_40 : decode cX6_out 40 = .ok (.aload_n 0, 1) := by decide +kernel
theorem dX6_out_41 : decode cX6_out 41 = .ok (.iload_n 3, 1) := by decide +kernel
theorem dX6_out_42 : decode cX6_out 42 = .ok (.invokevirtual 162, 3) := by decide +kernel
theorem dX6_out_45 : decode cX6_out 45 = .ok (.aload_n 0, 1) := by decide +kernel
theorem dX6_out_46 : decode cX6_out 46 = .ok (.iconst 0, 1) := by decide +kernel
theorem dX6_out_47 : decode cX6_out 47 = .ok (.putfield 79, 3) := by decide +kernel
theorem dX6_out_50 : decode cX6_out 50 = .ok (.aload_n 0, 1) := by decide +kernel
theorem dX6_out_51 : decode cX6_out 51 = .ok (.getfield 73, 3) := by decide +kernel
theorem dX6_out_54 : decode cX6_out 54 = .ok (.ifCond .eq 7, 3) := by decide +kernel
theorem dX6_out_57 : decode cX6_out 57 = .ok (.iconst (-1), 1) := by decide +kernel
theorem dX6_out_58 : decode cX6_out 58 = .ok (.goto 9, 3) := by decide +kernel
theorem dX6_out_61 : decode cX6_out 61 = .ok (.iconst 1, 1) := by decide +kernel
theorem dX6_out_62 : decode cX6_out 62 = .ok (.aload_n 0, 1) := by decide +kernel
theorem dX6_out_63 : decode cX6_out 63 = .ok (.getfield 125, 3) := by decide +kernel
theorem dX6_out_66 : decode cX6_out 66 = .ok (.iadd, 1) := by decide +kernel
theorem dX6_out_67 : decode cX6_out 67 = .ok (.ireturn, 1) := by decide +kernel
theorem dX6_out_68 : decode cX6_out 68 = .ok (.aload_n 0, 1) := by decide +kernel
theorem dX6_out_69 : decode cX6_out 69 = .ok (.getfield 156, 3) := by decide +kernel
theorem dX6_out_72 : decode cX6_out 72 = .ok (.ifCond .ne 17, 3) := by decide +kernel
theorem dX6_out_75 : decode cX6_out 75 = .ok (.iload_n 2, 1) := by decide +kernel
theorem dX6_out_76 : decode cX6_out 76 = .ok (.sipush 255, 3) := by decide +kernel
theorem dX6_out_79 : decode cX6_out 79 = .ok (.if_icmp .ne 10, 3) := by decide +kernel
theorem dX6_out_82 : decode cX6_out 82 = .ok (.aload_n 0, 1) := by decide +kernel
theorem dX6_out_83 : decode cX6_out 83 = .ok (.iconst 1, 1) := by decide +kernel
theorem dX6_out_84 : decode cX6_out 84 = .ok (.putfield 156, 3) := by decide +kernel
theorem dX6_out_87 : decode cX6_out 87 = .ok (.iconst 0, 1) := by decide +kernel
theorem dX6_out_88 : decode cX6_out 88 = .ok (.ireturn, 1) := by decide +kernel
theorem dX6_out_89 : decode cX6_out 89 = .ok (.aload_n 0, 1) := by decide +kernel
theorem dX6_out_90 : decode cX6_out 90 = .ok (.getfield 156, 3) := by decide +kernel
theorem dX6_out_93 : decode cX6_out 93 = .ok (.ifCond .eq 10, 3) := by decide +kernel
theorem dX6_out_96 : decode cX6_out 96 = .ok (.iload_n 2, 1) := by decide +kernel
theorem dX6_out_97 : decode cX6_out 97 = .ok (.sipush 255, 3) := by decide +kernel
theorem dX6_out_100 : decode cX6_out 100 = .ok (.if_icmp .ne 13, 3) := by decide +kernel
theorem dX6_out_103 : decode cX6_out 103 = .ok (.aload_n 0, 1) := by decide +kernel
theorem dX6_out_104 : decode cX6_out 104 = .ok (.getfield 79, 3) := by decide +kernel
theorem dX6_out_107 : decode cX6_out 107 = .ok (.sipush 8192, 3) := by decide +kernel
theorem dX6_out_110 : decode cX6_out 110 = .ok (.if_icmp .ne 8, 3) := by decide +kernel
theorem dX6_out_113 : decode cX6_out 113 = .ok (.aload_n 0, 1) := by decide +kernel
theorem dX6_out_114 : decode cX6_out 114 = .ok (.iconst 1, 1) := by decide +kernel
theorem dX6_out_115 : decode cX6_out 115 = .ok (.putfield 159, 3) := by decide +kernel
theorem dX6_out_118 : decode cX6_out 118 = .ok (.aload_n 0, 1) := by decide +kernel
theorem dX6_out_119 : decode cX6_out 119 = .ok (.iconst 0, 1) := by decide +kernel
theorem dX6_out_120 : decode cX6_out 120 = .ok (.putfield 156, 3) := by decide +kernel
theorem dX6_out_123 : decode cX6_out 123 = .ok (.aload_n 0, 1) := by decide +kernel
theorem dX6_out_124 : decode cX6_out 124 = .ok (.getfield 159, 3) := by decide +kernel
theorem dX6_out_127 : decode cX6_out 127 = .ok (.ifCond .eq 5, 3) := by decide +kernel
theorem dX6_out_130 : decode cX6_out 130 = .ok (.iconst 0, 1) := by decide +kernel
theorem dX6_out_131 : decode cX6_out 131 = .ok (.ireturn, 1) := by decide +kernel
theorem dX6_out_132 : decode cX6_out 132 = .ok (.aload_n 0, 1) := by decide +kernel
theorem dX6_out_133 : decode cX6_out 133 = .ok (.getfield 21, 3) := by decide +kernel
theorem dX6_out_136 : decode cX6_out 136 = .ok (.aload_n 0, 1) := by decide +kernel
theorem dX6_out_137 : decode cX6_out 137 = .ok (.getfield 79, 3) := by decide +kernel
theorem dX6_out_140 : decode cX6_out 140 = .ok (.iload_n 2, 1) := by decide +kernel
theorem dX6_out_141 : decode cX6_out 141 = .ok (.iastore, 1) := by decide +kernel
theorem dX6_out_142 : decode cX6_out 142 = .ok (.aload_n 0, 1) := by decide +kernel
theorem dX6_out_143 : decode cX6_out 143 = .ok (.dup, 1) := by decide +kernel
theorem dX6_out_144 : decode cX6_out 144 = .ok (.getfield 79, 3) := by decide +kernel
theorem dX6_out_147 : decode cX6_out 147 = .ok (.iconst 1, 1) := by decide +kernel
theorem dX6_out_148 : decode cX6_out 148 = .ok (.iadd, 1) := by decide +kernel
theorem dX6_out_149 : decode cX6_out 149 = .ok (.putfield 79, 3) := by decide +kernel
theorem dX6_out_152 : decode cX6_out 152 = .ok (.iconst 0, 1) := by decide +kernel
theorem dX6_out_153 : decode cX6_out 153 = .ok (.ireturn, 1) := by decide +kernel
theorem dX6_send_0 : decode cX6_send 0 = .ok (.aload_n 0, 1) := by decide +kernel
theorem dX6_send_1 : decode cX6_send 1 = .ok (.getfield 24, 3) := by decide +kernel
theorem dX6_send_4 : decode cX6_send 4 = .ok (.aload_n 0, 1) := by decide +kernel
theorem dX6_send_5 : decode cX6_send 5 = .ok (.getfield 137, 3) := by decide +kernel
theorem dX6_send_8 : decode cX6_send 8 = .ok (.iload_n 1, 1) := by decide +kernel
theorem dX6_send_9 : decode cX6_send 9 = .ok (.iastore, 1) := by decide +kernel
theorem dX6_send_10 : decode cX6_send 10 = .ok (.aload_n 0, 1) := by decide +kernel
theorem dX6_send_11 : decode cX6_send 11 = .ok (.dup, 1) := by decide +kernel
theorem dX6_send_12 : decode cX6_send 12 = .ok (.getfield 137, 3) := by decide +kernel
theorem dX6_send_15 : decode cX6_send 15 = .ok (.iconst 1, 1) := by decide +kernel
theorem dX6_send_16 : decode cX6_send 16 = .ok (.iadd, 1) := by decide +kernel
theorem dX6_send_17 : decode cX6_send 17 = .ok (.putfield 137, 3) := by decide +kernel
theorem dX6_send_20 : decode cX6_send 20 = .ok (.iload_n 1, 1) := by decide +kernel
theorem dX6_send_21 : decode cX6_send 21 = .ok (.sipush 255, 3) := by decide +kernel
theorem dX6_send_24 : decode cX6_send 24 = .ok (.if_icmp .eq 4, 3) := by decide +kernel
theorem dX6_send_27 : decode cX6_send 27 = .ok (.return_, 1) := by decide +kernel
theorem dX6_send_28 : decode cX6_send 28 = .ok (.aload_n 0, 1) := by decide +kernel
theorem dX6_send_29 : decode cX6_send 29 = .ok (.getfield 24, 3) := by decide +kernel
theorem dX6_send_32 : decode cX6_send 32 = .ok (.aload_n 0, 1) := by decide +kernel
theorem dX6_send_33 : decode cX6_send 33 = .ok (.getfield 137, 3) := by decide +kernel
theorem dX6_send_36 : decode cX6_send 36 = .ok (.iload_n 1, 1) := by decide +kernel
theorem dX6_send_37 : decode cX6_send 37 = .ok (.iastore, 1) := by decide +kernel
theorem dX6_send_38 : decode cX6_send 38 = .ok (.aload_n 0, 1) := by decide +kernel
theorem dX6_send_39 : decode cX6_send 39 = .ok (.dup, 1) := by decide +kernel
theorem dX6_send_40 : decode cX6_send 40 = .ok (.getfield 137, 3) := by decide +kernel
theorem dX6_send_43 : decode cX6_send 43 = .ok (.iconst 1, 1) := by decide +kernel
theorem dX6_send_44 : decode cX6_send 44 = .ok (.iadd, 1) := by decide +kernel
theorem dX6_send_45 : decode cX6_send 45 = .ok (.putfield 137, 3) := by decide +kernel
theorem dX6_send_48 : decode cX6_send 48 = .ok (.return_, 1) := by decide +kernel
set_option maxRecDepth 20000 in
theorem ggX6_sendAddress_X6_send : GoodIn wsX6_sendAddress wsX6_send := goodIn_r _ [6, 7, 8, 9, 10, 11, 12, 13, 14, 15, 16, 17, 18, 19, 20, 21, 22, 23, 24, 25, 26, 27, 28, 29, 30, 31, 32, 33] (by decide +kernel) (by decide +kernel)
set_option maxRecDepth 20000 in
theorem gX6_sendAddress_X6_send : GoodIn wsX6_sendAddress (wsV RX6 165 RX6 yX6_send wsX6_send) := goodIn_app (goodIn_of _ (by decide +kernel)) ggX6_sendAddress_X6_send
theorem dX6_sendAddress_0 : decode cX6_sendAddress 0 = .ok (.aload_n 0, 1) := by decide +kernel
theorem dX6_sendAddress_1 : decode cX6_sendAddress 1 = .ok (.aload_n 0, 1) := by decide +kernel
theorem dX6_sendAddress_2 : decode cX6_sendAddress 2 = .ok (.getfield 46, 3) := by decide +kernel
theorem dX6_sendAddress_5 : decode cX6_sendAddress 5 = .ok (.sipush 4096, 3) := by decide +kernel
theorem dX6_sendAddress_8 : decode cX6_sendAddress 8 = .ok (.if_icmp .gt 13, 3) := by decide +kernel
theorem dX6_sendAddress_11 : decode cX6_sendAddress 11 = .ok (.bipush 64, 2) := by decide +kernel
theorem dX6_sendAddress_13 : decode cX6_sendAddress 13 = .ok (.iload_n 1, 1) := by decide +kernel
theorem dX6_sendAddress_14 : decode cX6_sendAddress 14 = .ok (.bipush 6, 2) := by decide +kernel
theorem dX6_sendAddress_16 : decode cX6_sendAddress 16 = .ok (.ishr, 1) := by decide +kernel
theorem dX6_sendAddress_17 : decode cX6_sendAddress 17 = .ok (.iadd, 1) := by decide +kernel
theorem dX6_sendAddress_18 : decode cX6_sendAddress 18 = .ok (.goto 7, 3) := by decide +kernel
theorem dX6_sendAddress_21 : decode cX6_sendAddress 21 = .ok (.iload_n 1, 1) := by decide +kernel
theorem dX6_sendAddress_22 : decode cX6_sendAddress 22 = .ok (.bipush 8, 2) := by decide +kernel
theorem dX6_sendAddress_24 : decode cX6_sendAddress 24 = .ok (.ishr, 1) := by decide +kernel
theorem dX6_sendAddress_25 : decode cX6_sendAddress 25 = .ok (.invokevirtual 165, 3) := by decide +kernel
theorem dX6_sendAddress_28 : decode cX6_sendAddress 28 = .ok (.aload_n 0, 1) := by decide +kernel
theorem dX6_sendAddress_29 : decode cX6_sendAddress 29 = .ok (.aload_n 0, 1) := by decide +kernel
theorem dX6_sendAddress_30 : decode cX6_sendAddress 30 = .ok (.getfield 46, 3) := by decide +kernel
theorem dX6_sendAddress_33 : decode cX6_sendAddress 33 = .ok (.sipush 4096, 3) := by decide +kernel
theorem dX6_sendAddress_36 : decode cX6_sendAddress 36 = .ok (.if_icmp .gt 13, 3) := by decide +kernel
theorem dX6_sendAddress_39 : decode cX6_sendAddress 39 = .ok (.bipush 64, 2) := by decide +kernel
theorem dX6_sendAddress_41 : decode cX6_sendAddress 41 = .ok (.iload_n 1, 1) := by decide +kernel
theorem dX6_sendAddress_42 : decode cX6_sendAddress 42 = .ok (.bipush 63, 2) := by decide +kernel
theorem dX6_sendAddress_44 : decode cX6_sendAddress 44 = .ok (.iand, 1) := by decide +kernel
theorem dX6_sendAddress_45 : decode cX6_sendAddress 45 = .ok (.iadd, 1) := by decide +kernel
theorem dX6_sendAddress_46 : decode cX6_sendAddress 46 = .ok (.goto 8, 3) := by decide +kernel
theorem dX6_sendAddress_49 : decode cX6_sendAddress 49 = .ok (.iload_n 1, 1) := by decide +kernel
theorem dX6_sendAddress_50 : decode cX6_sendAddress 50 = .ok (.sipush 255, 3) := by decide +kernel
theorem dX6_sendAddress_53 : decode cX6_sendAddress 53 = .ok (.iand, 1) := by decide +kernel
theorem dX6_sendAddress_54 : decode cX6_sendAddress 54 = .ok (.invokevirtual 165, 3) := by decide +kernel
theorem dX6_sendAddress_57 : decode cX6_sendAddress 57 = .ok (.return_, 1) := by decide +kernel
theorem dX6_end_0 : decode cX6_end 0 = .ok (.aload_n 0, 1) := by decide +kernel
theorem dX6_end_1 : decode cX6_end 1 = .ok (.getfield 24, 3) := by decide +kernel
theorem dX6_end_4 : decode cX6_end 4 = .ok (.aload_n 0, 1) := by decide +kernel
theorem dX6_end_5 : decode cX6_end 5 = .ok (.getfield 137, 3) := by decide +kernel
theorem dX6_end_8 : decode cX6_end 8 = .ok (.sipush 255, 3) := by decide +kernel
theorem dX6_end_11 : decode cX6_end 11 = .ok (.iastore, 1) := by decide +kernel
theorem dX6_end_12 : decode cX6_end 12 = .ok (.aload_n 0, 1) := by decide +kernel
theorem dX6_end_13 : decode cX6_end 13 = .ok (.getfield 24, 3) := by decide +kernel
theorem dX6_end_16 : decode cX6_end 16 = .ok (.aload_n 0, 1) := by decide +kernel
theorem dX6_end_17 : decode cX6_end 17 = .ok (.getfield 137, 3) := by decide +kernel
theorem dX6_end_20 : decode cX6_end 20 = .ok (.iconst 1, 1) := by decide +kernel
theorem dX6_end_21 : decode cX6_end 21 = .ok (.iadd, 1) := by decide +kernel
theorem dX6_end_22 : decode cX6_end 22 = .ok (.sipush 239, 3) := by decide +kernel
theorem dX6_end_25 : decode cX6_end 25 = .ok (.iastore, 1) := by decide +kernel
theorem dX6_end_26 : decode cX6_end 26 = .ok (.aload_n 0, 1) := by decide +kernel
theorem dX6_end_27 : decode cX6_end 27 = .ok (.dup, 1) := by decide +kernel
theorem dX6_end_28 : decode cX6_end 28 = .ok (.getfield 137, 3) := by decide +kernel
theorem dX6_end_31 : decode cX6_end 31 = .ok (.iconst 2, 1) := by decide +kernel
theorem dX6_end_32 : decode cX6_end 32 = .ok (.iadd, 1) := by decide +kernel
theorem dX6_end_33 : decode cX6_end 33 = .ok (.putfield 137, 3) := by decide +kernel
theorem dX6_end_36 : decode cX6_end 36 = .ok (.return_, 1) := by decide +kernel
set_option maxRecDepth 20000 in
theorem ggX6_answer_X6_send : GoodIn wsX6_answer wsX6_send := goodIn_r _ [9, 10, 1, 35, 36, 37, 38, 39, 40, 41, 42, 43, 44, 45, 46, 47, 48, 49, 50, 51, 52, 53, 54, 55, 56, 57, 58, 59] (by decide +kernel) (by decide +kernel)
set_option maxRecDepth 20000 in
theorem gX6_answer_X6_send : GoodIn wsX6_answer (wsV RX6 165 RX6 yX6_send wsX6_send) := goodIn_app (goodIn_of _ (by decide +kernel)) ggX6_answer_X6_send
set_option maxRecDepth 20000 in
theorem ggX6_answer_X6_sendAddress : GoodIn wsX6_answer wsX6_sendAddress := goodIn_r _ [14, 3, 5, 6, 7, 8, 9, 10, 1, 35, 36, 37, 38, 39, 40, 41, 42, 43, 44, 45, 46, 47, 48, 49, 50, 51, 52, 53, 54, 55, 56, 57, 58, 59] (by decide +kernel) (by decide +kernel)
set_option maxRecDepth 20000 in
theorem gX6_answer_X6_sendAddress : GoodIn wsX6_answer (wsV RX6 168 RX6 yX6_sendAddress wsX6_sendAddress) := goodIn_app (goodIn_of _ (by decide +kernel)) ggX6_answer_X6_sendAddress
set_option maxRecDepth 20000 in
theorem ggX6_answer_X6_fields : GoodIn wsX6_answer wsX6_fields := goodIn_r _ [18, 3, 19, 20, 21, 8, 22, 4, 35, 36, 37, 38, 39, 40, 41, 42, 43, 44, 45, 46, 47, 48, 49, 50, 51, 52, 53, 54, 55, 56, 57, 58, 59] (by decide +kernel) (by decide +kernel)
set_option maxRecDepth 20000 in
theorem gX6_answer_X6_fields : GoodIn wsX6_answer (wsV RX6 69 RX6 yX6_fields wsX6_fields) := goodIn_app (goodIn_of _ (by decide +kernel)) ggX6_answer_X6_fields
set_option maxRecDepth 20000 in
theorem ggX6_answer_X6_isAttribute : GoodIn wsX6_answer wsX6_isAttribute := goodIn_r _ [22, 4, 35, 36, 37, 38, 39, 40, 41, 42, 43, 44, 45, 46, 47, 48, 49, 50, 51, 52, 53, 54, 55, 56, 57, 58, 59] (by decide +kernel) (by decide +kernel)
set_option maxRecDepth 20000 in
theorem gX6_answer_X6_isAttribute : GoodIn wsX6_answer (wsV RX6 56 RX6 yX6_isAttribute wsX6_isAttribute) := goodIn_app (goodIn_of _ (by decide +kernel)) ggX6_answer_X6_isAttribute
set_option maxRecDepth 20000 in
theorem ggX6_answer_X6_sendField : GoodIn wsX6_answer wsX6_sendField := goodIn_r _ [26, 3, 4, 5, 6, 7, 8, 9, 10, 1, 27, 28, 29, 30, 11, 12, 13, 14, 19, 20, 21, 22, 35, 36, 37, 38, 39, 40, 41, 42, 43, 44, 45, 46, 47, 48, 49, 50, 51, 52, 53, 54, 55, 56, 57, 58, 59] (by decide +kernel) (by decide +kernel)
set_option maxRecDepth 20000 in
theorem gX6_answer_X6_sendField : GoodIn wsX6_answer (wsV RX6 171 RX6 yX6_sendField wsX6_sendField) := goodIn_app (goodIn_of _ (by decide +kernel)) ggX6_answer_X6_sendField
set_option maxRecDepth 20000 in
theorem ggX6_answer_X6_end : GoodIn wsX6_answer wsX6_end := goodIn_r _ [34, 10, 1, 35, 36, 37, 38, 39, 40, 41, 42, 43, 44, 45, 46, 47, 48, 49, 50, 51, 52, 53, 54, 55, 56, 57, 58, 59] (by decide +kernel) (by decide +kernel)
set_option maxRecDepth 20000 in
theorem gX6_answer_X6_end : GoodIn wsX6_answer (wsV RX6 174 RX6 yX6_end wsX6_end) := goodIn_app (goodIn_of _ (by decide +kernel)) ggX6_answer_X6_end
theorem dX6_answer_0 : decode cX6_answer 0 = .ok (.aload_n 0, 1) := by decide +kernel
theorem dX6_answer_1 : decode cX6_answer 1 = .ok (.iconst 0, 1) := by decide +kernel
theorem dX6_answer_2 : decode cX6_answer 2 = .ok (.putfield 137, 3) := by decide +kernel
theorem dX6_answer_5 : decode cX6_answer 5 = .ok (.aload_n 0, 1) := by decide +kernel
theorem dX6_answer_6 : decode cX6_answer 6 = .ok (.iload_n 1, 1) := by decide +kernel
theorem dX6_answer_7 : decode cX6_answer 7 = .ok (.invokevirtual 165, 3) := by decide +kernel
theorem dX6_answer_10 : decode cX6_answer 10 = .ok (.aload_n 0, 1) := by decide +kernel
theorem dX6_answer_11 : decode cX6_answer 11 = .ok (.aload_n 0, 1) := by decide +kernel
theorem dX6_answer_12 : decode cX6_answer 12 = .ok (.getfield 49, 3) := by decide +kernel
theorem dX6_answer_15 : decode cX6_answer 15 = .ok (.invokevirtual 168, 3) := by decide +kernel
theorem dX6_answer_18 : decode cX6_answer 18 = .ok (.aload_n 0, 1) := by decide +kernel
theorem dX6_answer_19 : decode cX6_answer 19 = .ok (.invokevirtual 69, 3) := by decide +kernel
theorem dX6_answer_22 : decode cX6_answer 22 = .ok (.ifCond .ne 7, 3) := by decide +kernel
theorem dX6_answer_25 : decode cX6_answer 25 = .ok (.iconst 1, 1) := by decide +kernel
theorem dX6_answer_26 : decode cX6_answer 26 = .ok (.goto 4, 3) := by decide +kernel
theorem dX6_answer_29 : decode cX6_answer 29 = .ok (.iconst 0, 1) := by decide +kernel
theorem dX6_answer_30 : decode cX6_answer 30 = .ok (.istore_n 3, 1) := by decide +kernel
theorem dX6_answer_31 : decode cX6_answer 31 = .ok (.iconst 0, 1) := by decide +kernel
theorem dX6_answer_32 : decode cX6_answer 32 = .ok (.istore 4, 2) := by decide +kernel
theorem dX6_answer_34 : decode cX6_answer 34 = .ok (.iload 4, 2) := by decide +kernel
theorem dX6_answer_36 : decode cX6_answer 36 = .ok (.aload_n 0, 1) := by decide +kernel
theorem dX6_answer_37 : decode cX6_answer 37 = .ok (.getfield 46, 3) := by decide +kernel
theorem dX6_answer_40 : decode cX6_answer 40 = .ok (.if_icmp .ge 119, 3) := by decide +kernel
theorem dX6_answer_43 : decode cX6_answer 43 = .ok (.iload_n 2, 1) := by decide +kernel
theorem dX6_answer_44 : decode cX6_answer 44 = .ok (.ifCond .eq 36, 3) := by decide +kernel
theorem dX6_answer_47 : decode cX6_answer 47 = .ok (.aload_n 0, 1) := by decide +kernel
theorem dX6_answer_48 : decode cX6_answer 48 = .ok (.iload 4, 2) := by decide +kernel
theorem dX6_answer_50 : decode cX6_answer 50 = .ok (.invokevirtual 56, 3) := by decide +kernel
theorem dX6_answer_53 : decode cX6_answer 53 = .ok (.ifCond .eq 27, 3) := by decide +kernel
theorem dX6_answer_56 : decode cX6_answer 56 = .ok (.aload_n 0, 1) := by decide +kernel
theorem dX6_answer_57 : decode cX6_answer 57 = .ok (.bipush 29, 2) := by decide +kernel
theorem dX6_answer_59 : decode cX6_answer 59 = .ok (.invokevirtual 165, 3) := by decide +kernel
theorem dX6_answer_62 : decode cX6_answer 62 = .ok (.aload_n 0, 1) := by decide +kernel
theorem dX6_answer_63 : decode cX6_answer 63 = .ok (.aload_n 0, 1) := by decide +kernel
theorem dX6_answer_64 : decode cX6_answer 64 = .ok (.getfield 7, 3) := by decide +kernel
theorem dX6_answer_67 : decode cX6_answer 67 = .ok (.iload 4, 2) := by decide +kernel
theorem dX6_answer_69 : decode cX6_answer 69 = .ok (.iaload, 1) := by decide +kernel
theorem dX6_answer_70 : decode cX6_answer 70 = .ok (.sipush 256, 3) := by decide +kernel
theorem dX6_answer_73 : decode cX6_answer 73 = .ok (.isub, 1) := by decide +kernel
theorem dX6_answer_74 : decode cX6_answer 74 = .ok (.invokevirtual 165, 3) := by decide +kernel
theorem dX6_answer_77 : decode cX6_answer 77 = .ok (.goto 76, 3) := by decide +kernel
theorem dX6_answer_80 : decode cX6_answer 80 = .ok (.iload_n 2, 1) := by decide +kernel
theorem dX6_answer_81 : decode cX6_answer 81 = .ok (.ifCond .eq 17, 3) := by decide +kernel
theorem dX6_answer_84 : decode cX6_answer 84 = .ok (.aload_n 0, 1) := by decide +kernel
theorem dX6_answer_85 : decode cX6_answer 85 = .ok (.aload_n 0, 1) := by decide +kernel
theorem dX6_answer_86 : decode cX6_answer 86 = .ok (.getfield 7, 3) := by decide +kernel
theorem dX6_answer_89 : decode cX6_answer 89 = .ok (.iload 4, 2) := by decide +kernel
theorem dX6_answer_91 : decode cX6_answer 91 = .ok (.iaload, 1) := by decide +kernel
theorem dX6_answer_92 : decode cX6_answer 92 = .ok (.invokevirtual 165, 3) := by decide +kernel
theorem dX6_answer_95 : decode cX6_answer 95 = .ok (.goto 58, 3) := by decide +kernel
theorem dX6_answer_98 : decode cX6_answer 98 = .ok (.iload_n 3, 1) := by decide +kernel
theorem dX6_answer_99 : decode cX6_answer 99 = .ok (.ifCond .eq 27, 3) := by decide +kernel
theorem dX6_answer_102 : decode cX6_answer 102 = .ok (.aload_n 0, 1) := by decide +kernel
theorem dX6_answer_103 : decode cX6_answer 103 = .ok (.getfield 7, 3) := by decide +kernel
theorem dX6_answer_106 : decode cX6_answer 106 = .ok (.iload 4, 2) := by decide +kernel
theorem dX6_answer_108 : decode cX6_answer 108 = .ok (.iaload, 1) := by decide +kernel
theorem dX6_answer_109 : decode cX6_answer 109 = .ok (.ifCond .eq 17, 3) := by decide +kernel
theorem dX6_answer_112 : decode cX6_answer 112 = .ok (.aload_n 0, 1) := by decide +kernel
theorem dX6_answer_113 : decode cX6_answer 113 = .ok (.aload_n 0, 1) := by decide +kernel
theorem dX6_answer_114 : decode cX6_answer 114 = .ok (.getfield 7, 3) := by decide +kernel
theorem dX6_answer_117 : decode cX6_answer 117 = .ok (.iload 4, 2) := by decide +kernel
theorem dX6_answer_119 : decode cX6_answer 119 = .ok (.iaload, 1) := by decide +kernel
theorem dX6_answer_120 : decode cX6_answer 120 = .ok (.invokevirtual 165, 3) := by decide +kernel
theorem dX6_answer_123 : decode cX6_answer 123 = .ok (.goto 30, 3) := by decide +kernel
theorem dX6_answer_126 : decode cX6_answer 126 = .ok (.aload_n 0, 1) := by decide +kernel
theorem dX6_answer_127 : decode cX6_answer 127 = .ok (.iload 4, 2) := by decide +kernel
theorem dX6_answer_129 : decode cX6_answer 129 = .ok (.invokevirtual 56, 3) := by decide +kernel
theorem dX6_answer_132 : decode cX6_answer 132 = .ok (.ifCond .eq 21, 3) := by decide +kernel
theorem dX6_answer_135 : decode cX6_answer 135 = .ok (.aload_n 0, 1) := by decide +kernel
theorem dX6_answer_136 : decode cX6_answer 136 = .ok (.getfield 7, 3) := by decide +kernel
theorem dX6_answer_139 : decode cX6_answer 139 = .ok (.iload 4, 2) := by decide +kernel
theorem dX6_answer_141 : decode cX6_answer 141 = .ok (.iaload, 1) := by decide +kernel
theorem dX6_answer_142 : decode cX6_answer 142 = .ok (.iconst 1, 1) := by decide +kernel
theorem dX6_answer_143 : decode cX6_answer 143 = .ok (.iand, 1) := by decide +kernel
theorem dX6_answer_144 : decode cX6_answer 144 = .ok (.ifCond .eq 9, 3) := by decide +kernel
theorem dX6_answer_147 : decode cX6_answer 147 = .ok (.aload_n 0, 1) := by decide +kernel
theorem dX6_answer_148 : decode cX6_answer 148 = .ok (.iload 4, 2) := by decide +kernel
theorem dX6_answer_150 : decode cX6_answer 150 = .ok (.invokevirtual 171, 3) := by decide +kernel
theorem dX6_answer_153 : decode cX6_answer 153 = .ok (.iinc 4 1, 3) := by decide +kernel
theorem dX6_answer_156 : decode cX6_answer 156 = .ok (.goto (-122), 3) := by decide +kernel
theorem dX6_answer_159 : decode cX6_answer 159 = .ok (.aload_n 0, 1) := by decide +kernel
theorem dX6_answer_160 : decode cX6_answer 160 = .ok (.invokevirtual 174, 3) := by decide +kernel
theorem dX6_answer_163 : decode cX6_answer 163 = .ok (.return_, 1) := by decide +kernel
set_option maxRecDepth 20000 in
theorem ggX6_sendField_X6_send : GoodIn wsX6_sendField wsX6_send := goodIn_r _ [7, 8, 9, 22, 23, 24, 25, 26, 27, 28, 29, 30, 31, 32, 33, 34, 35, 36, 37, 38, 39, 40, 41, 42, 43, 44, 45, 46] (by decide +kernel) (by decide +kernel)
set_option maxRecDepth 20000 in
theorem gX6_sendField_X6_send : GoodIn wsX6_sendField (wsV RX6 165 RX6 yX6_send wsX6_send) := goodIn_app (goodIn_of _ (by decide +kernel)) ggX6_sendField_X6_send
set_option maxRecDepth 20000 in
theorem ggX6_sendField_X6_round : GoodIn wsX6_sendField wsX6_round := goodIn_r _ [13, 1, 22, 23, 24, 25, 26, 27, 28, 29, 30, 31, 32, 33, 34, 35, 36, 37, 38, 39, 40, 41, 42, 43, 44, 45, 46] (by decide +kernel) (by decide +kernel)
set_option maxRecDepth 20000 in
theorem gX6_sendField_X6_round : GoodIn wsX6_sendField (wsV RX6 52 RX6 yX6_round wsX6_round) := goodIn_app (goodIn_of _ (by decide +kernel)) ggX6_sendField_X6_round
set_option maxRecDepth 20000 in
theorem ggX6_sendField_X6_sendAddress : GoodIn wsX6_sendField wsX6_sendAddress := goodIn_r _ [17, 1, 3, 4, 5, 6, 7, 8, 9, 22, 23, 24, 25, 26, 27, 28, 29, 30, 31, 32, 33, 34, 35, 36, 37, 38, 39, 40, 41, 42, 43, 44, 45, 46] (by decide +kernel) (by decide +kernel)
set_option maxRecDepth 20000 in
theorem gX6_sendField_X6_sendAddress : GoodIn wsX6_sendField (wsV RX6 168 RX6 yX6_sendAddress wsX6_sendAddress) := goodIn_app (goodIn_of _ (by decide +kernel)) ggX6_sendField_X6_sendAddress
set_option maxRecDepth 20000 in
theorem ggX6_sendField_X6_isAttribute : GoodIn wsX6_sendField wsX6_isAttribute := goodIn_r _ [21, 2, 22, 23, 24, 25, 26, 27, 28, 29, 30, 31, 32, 33, 34, 35, 36, 37, 38, 39, 40, 41, 42, 43, 44, 45, 46] (by decide +kernel) (by decide +kernel)
set_option maxRecDepth 20000 in
theorem gX6_sendField_X6_isAttribute : GoodIn wsX6_sendField (wsV RX6 56 RX6 yX6_isAttribute wsX6_isAttribute) := goodIn_app (goodIn_of _ (by decide +kernel)) ggX6_sendField_X6_isAttribute
theorem dX6_sendField_0 : decode cX6_sendField 0 = .ok (.aload_n 0, 1) := by decide +kernel
theorem dX6_sendField_1 : decode cX6_sendField 1 = .ok (.bipush 17, 2) := by decide +kernel
theorem dX6_sendField_3 : decode cX6_sendField 3 = .ok (.invokevirtual 165, 3) := by decide +kernel
theorem dX6_sendField_6 : decode cX6_sendField 6 = .ok (.aload_n 0, 1) := by decide +kernel
theorem dX6_sendField_7 : decode cX6_sendField 7 = .ok (.aload_n 0, 1) := by decide +kernel
theorem dX6_sendField_8 : decode cX6_sendField 8 = .ok (.iload_n 1, 1) := by decide +kernel
theorem dX6_sendField_9 : decode cX6_sendField 9 = .ok (.iconst 1, 1) := by decide +kernel
theorem dX6_sendField_10 : decode cX6_sendField 10 = .ok (.iadd, 1) := by decide +kernel
theorem dX6_sendField_11 : decode cX6_sendField 11 = .ok (.invokevirtual 52, 3) := by decide +kernel
theorem dX6_sendField_14 : decode cX6_sendField 14 = .ok (.invokevirtual 168, 3) := by decide +kernel
theorem dX6_sendField_17 : decode cX6_sendField 17 = .ok (.iconst 1, 1) := by decide +kernel
theorem dX6_sendField_18 : decode cX6_sendField 18 = .ok (.istore_n 2, 1) := by decide +kernel
theorem dX6_sendField_19 : decode cX6_sendField 19 = .ok (.iload_n 2, 1) := by decide +kernel
theorem dX6_sendField_20 : decode cX6_sendField 20 = .ok (.aload_n 0, 1) := by decide +kernel
theorem dX6_sendField_21 : decode cX6_sendField 21 = .ok (.getfield 46, 3) := by decide +kernel
theorem dX6_sendField_24 : decode cX6_sendField 24 = .ok (.if_icmp .ge 54, 3) := by decide +kernel
theorem dX6_sendField_27 : decode cX6_sendField 27 = .ok (.aload_n 0, 1) := by decide +kernel
theorem dX6_sendField_28 : decode cX6_sendField 28 = .ok (.aload_n 0, 1) := by decide +kernel
theorem dX6_sendField_29 : decode cX6_sendField 29 = .ok (.iload_n 1, 1) := by decide +kernel
theorem dX6_sendField_30 : decode cX6_sendField 30 = .ok (.iload_n 2, 1) := by decide +kernel
theorem dX6_sendField_31 : decode cX6_sendField 31 = .ok (.iadd, 1) := by decide +kernel
theorem dX6_sendField_32 : decode cX6_sendField 32 = .ok (.invokevirtual 52, 3) := by decide +kernel
theorem dX6_sendField_35 : decode cX6_sendField 35 = .ok (.invokevirtual 56, 3) := by decide +kernel
theorem dX6_sendField_38 : decode cX6_sendField 38 = .ok (.ifCond .ne 40, 3) := by decide +kernel
theorem dX6_sendField_41 : decode cX6_sendField 41 = .ok (.aload_n 0, 1) := by decide +kernel
theorem dX6_sendField_42 : decode cX6_sendField 42 = .ok (.getfield 7, 3) := by decide +kernel
theorem dX6_sendField_45 : decode cX6_sendField 45 = .ok (.aload_n 0, 1) := by decide +kernel
theorem dX6_sendField_46 : decode cX6_sendField 46 = .ok (.iload_n 1, 1) := by decide +kernel
theorem dX6_sendField_47 : decode cX6_sendField 47 = .ok (.iload_n 2, 1) := by decide +kernel
theorem dX6_sendField_48 : decode cX6_sendField 48 = .ok (.iadd, 1) := by decide +kernel
theorem dX6_sendField_49 : decode cX6_sendField 49 = .ok (.invokevirtual 52, 3) := by decide +kernel
theorem dX6_sendField_52 : decode cX6_sendField 52 = .ok (.iaload, 1) := by decide +kernel
theorem dX6_sendField_53 : decode cX6_sendField 53 = .ok (.ifCond .eq 19, 3) := by decide +kernel
theorem dX6_sendField_56 : decode cX6_sendField 56 = .ok (.aload_n 0, 1) := by decide +kernel
theorem dX6_sendField_57 : decode cX6_sendField 57 = .ok (.aload_n 0, 1) := by decide +kernel
theorem dX6_sendField_58 : decode cX6_sendField 58 = .ok (.getfield 7, 3) := by decide +kernel
theorem dX6_sendField_61 : decode cX6_sendField 61 = .ok (.aload_n 0, 1) := by decide +kernel
theorem dX6_sendField_62 : decode cX6_sendField 62 = .ok (.iload_n 1, 1) := by decide +kernel
theorem dX6_sendField_63 : decode cX6_sendField 63 = .ok (.iload_n 2, 1) := by decide +kernel
theorem dX6_sendField_64 : decode cX6_sendField 64 = .ok (.iadd, 1) := by decide +kernel
theorem dX6_sendField_65 : decode cX6_sendField 65 = .ok (.invokevirtual 52, 3) := by decide +kernel
theorem dX6_sendField_68 : decode cX6_sendField 68 = .ok (.iaload, 1) := by decide +kernel
theorem dX6_sendField_69 : decode cX6_sendField 69 = .ok (.invokevirtual 165, 3) := by decide +kernel
theorem dX6_sendField_72 : decode cX6_sendField 72 = .ok (.iinc 2 1, 3) := by decide +kernel
theorem dX6_sendField_75 : decode cX6_sendField 75 = .ok (.goto (-56), 3) := by decide +kernel
theorem dX6_sendField_78 : decode cX6_sendField 78 = .ok (.return_, 1) := by decide +kernel
set_option maxRecDepth 20000 in
theorem ggX6_shortly_X6_send : GoodIn wsX6_shortly wsX6_send := goodIn_r _ [6, 7, 1, 12, 13, 14, 15, 16, 17, 18, 19, 20, 21, 22, 23, 24, 25, 26, 27, 28, 29, 30, 31, 32, 33, 34, 35, 36] (by decide +kernel) (by decide +kernel)
set_option maxRecDepth 20000 in
theorem gX6_shortly_X6_send : GoodIn wsX6_shortly (wsV RX6 165 RX6 yX6_send wsX6_send) := goodIn_app (goodIn_of _ (by decide +kernel)) ggX6_shortly_X6_send
set_option maxRecDepth 20000 in
theorem ggX6_shortly_X6_end : GoodIn wsX6_shortly wsX6_end := goodIn_r _ [11, 7, 1, 12, 13, 14, 15, 16, 17, 18, 19, 20, 21, 22, 23, 24, 25, 26, 27, 28, 29, 30, 31, 32, 33, 34, 35, 36] (by decide +kernel) (by decide +kernel)
set_option maxRecDepth 20000 in
theorem gX6_shortly_X6_end : GoodIn wsX6_shortly (wsV RX6 174 RX6 yX6_end wsX6_end) := goodIn_app (goodIn_of _ (by decide +kernel)) ggX6_shortly_X6_end
theorem dX6_shortly_0 : decode cX6_shortly 0 = .ok (.aload_n 0, 1) := by decide +kernel
theorem dX6_shortly_1 : decode cX6_shortly 1 = .ok (.iconst 0, 1) := by decide +kernel
theorem dX6_shortly_2 : decode cX6_shortly 2 = .ok (.putfield 137, 3) := by decide +kernel
theorem dX6_shortly_5 : decode cX6_shortly 5 = .ok (.aload_n 0, 1) := by decide +kernel
theorem dX6_shortly_6 : decode cX6_shortly 6 = .ok (.iload_n 1, 1) := by decide +kernel
theorem dX6_shortly_7 : decode cX6_shortly 7 = .ok (.invokevirtual 165, 3) := by decide +kernel
theorem dX6_shortly_10 : decode cX6_shortly 10 = .ok (.aload_n 0, 1) := by decide +kernel
theorem dX6_shortly_11 : decode cX6_shortly 11 = .ok (.invokevirtual 174, 3) := by decide +kernel
theorem dX6_shortly_14 : decode cX6_shortly 14 = .ok (.return_, 1) := by decide +kernel
set_option maxRecDepth 20000 in
theorem ggX6_begins_X6_isAttribute : GoodIn wsX6_begins wsX6_isAttribute := goodIn_r _ [6, 1, 12, 13, 14, 15, 16, 17, 18, 19, 20, 21, 22, 23, 24, 25, 26, 27, 28, 29, 30, 31, 32, 33, 34, 35, 36] (by decide +kernel) (by decide +kernel)
set_option maxRecDepth 20000 in
theorem gX6_begins_X6_isAttribute : GoodIn wsX6_begins (wsV RX6 56 RX6 yX6_isAttribute wsX6_isAttribute) := goodIn_app (goodIn_of _ (by decide +kernel)) ggX6_begins_X6_isAttribute
set_option maxRecDepth 20000 in
theorem ggX6_begins_X6_round : GoodIn wsX6_begins wsX6_round := goodIn_r _ [10, 11, 12, 13, 14, 15, 16, 17, 18, 19, 20, 21, 22, 23, 24, 25, 26, 27, 28, 29, 30, 31, 32, 33, 34, 35, 36] (by decide +kernel) (by decide +kernel)
set_option maxRecDepth 20000 in
theorem gX6_begins_X6_round : GoodIn wsX6_begins (wsV RX6 52 RX6 yX6_round wsX6_round) := goodIn_app (goodIn_of _ (by decide +kernel)) ggX6_begins_X6_round
theorem dX6_begins_0 : decode cX6_begins 0 = .ok (.aload_n 0, 1) := by decide +kernel
theorem dX6_begins_1 : decode cX6_begins 1 = .ok (.iload_n 1, 1) := by decide +kernel
theorem dX6_begins_2 : decode cX6_begins 2 = .ok (.invokevirtual 56, 3) := by decide +kernel
theorem dX6_begins_5 : decode cX6_begins 5 = .ok (.ifCond .eq 33, 3) := by decide +kernel
theorem dX6_begins_8 : decode cX6_begins 8 = .ok (.aload_n 0, 1) := by decide +kernel
theorem dX6_begins_9 : decode cX6_begins 9 = .ok (.getfield 7, 3) := by decide +kernel
theorem dX6_begins_12 : decode cX6_begins 12 = .ok (.iload_n 1, 1) := by decide +kernel
theorem dX6_begins_13 : decode cX6_begins 13 = .ok (.iaload, 1) := by decide +kernel
theorem dX6_begins_14 : decode cX6_begins 14 = .ok (.bipush 32, 2) := by decide +kernel
theorem dX6_begins_16 : decode cX6_begins 16 = .ok (.iand, 1) := by decide +kernel
theorem dX6_begins_17 : decode cX6_begins 17 = .ok (.ifCond .ne 21, 3) := by decide +kernel
theorem dX6_begins_20 : decode cX6_begins 20 = .ok (.aload_n 0, 1) := by decide +kernel
theorem dX6_begins_21 : decode cX6_begins 21 = .ok (.aload_n 0, 1) := by decide +kernel
theorem dX6_begins_22 : decode cX6_begins 22 = .ok (.iload_n 1, 1) := by decide +kernel
theorem dX6_begins_23 : decode cX6_begins 23 = .ok (.iconst 1, 1) := by decide +kernel
theorem dX6_begins_24 : decode cX6_begins 24 = .ok (.iadd, 1) := by decide +kernel
theorem dX6_begins_25 : decode cX6_begins 25 = .ok (.invokevirtual 52, 3) := by decide +kernel
theorem dX6_begins_28 : decode cX6_begins 28 = .ok (.invokevirtual 56, 3) := by decide +kernel
theorem dX6_begins_31 : decode cX6_begins 31 = .ok (.ifCond .ne 7, 3) := by decide +kernel
theorem dX6_begins_34 : decode cX6_begins 34 = .ok (.iconst 1, 1) := by decide +kernel
theorem dX6_begins_35 : decode cX6_begins 35 = .ok (.goto 4, 3) := by decide +kernel
theorem dX6_begins_38 : decode cX6_begins 38 = .ok (.iconst 0, 1) := by decide +kernel
theorem dX6_begins_39 : decode cX6_begins 39 = .ok (.ireturn, 1) := by decide +kernel
set_option maxRecDepth 20000 in
theorem ggX6_tab_X6_round : GoodIn wsX6_tab wsX6_round := goodIn_r _ [6, 1, 16, 17, 18, 19, 20, 21, 22, 23, 24, 25, 26, 27, 28, 29, 30, 31, 32, 33, 34, 35, 36, 37, 38, 39, 40] (by decide +kernel) (by decide +kernel)
set_option maxRecDepth 20000 in
theorem gX6_tab_X6_round : GoodIn wsX6_tab (wsV RX6 52 RX6 yX6_round wsX6_round) := goodIn_app (goodIn_of _ (by decide +kernel)) ggX6_tab_X6_round
set_option maxRecDepth 20000 in
theorem ggX6_tab_X6_begins : GoodIn wsX6_tab wsX6_begins := goodIn_r _ [10, 11, 12, 13, 14, 5, 15, 2, 3, 4, 6, 1, 16, 17, 18, 19, 20, 21, 22, 23, 24, 25, 26, 27, 28, 29, 30, 31, 32, 33, 34, 35, 36, 37, 38, 39, 40] (by decide +kernel) (by decide +kernel)
set_option maxRecDepth 20000 in
theorem gX6_tab_X6_begins : GoodIn wsX6_tab (wsV RX6 177 RX6 yX6_begins wsX6_begins) := goodIn_app (goodIn_of _ (by decide +kernel)) ggX6_tab_X6_begins
theorem dX6_tab_0 : decode cX6_tab 0 = .ok (.iconst 0, 1) := by decide +kernel
theorem dX6_tab_1 : decode cX6_tab 1 = .ok (.istore_n 2, 1) := by decide +kernel
theorem dX6_tab_2 : decode cX6_tab 2 = .ok (.iload_n 2, 1) := by decide +kernel
theorem dX6_tab_3 : decode cX6_tab 3 = .ok (.aload_n 0, 1) := by decide +kernel
theorem dX6_tab_4 : decode cX6_tab 4 = .ok (.getfield 46, 3) := by decide +kernel
theorem dX6_tab_7 : decode cX6_tab 7 = .ok (.if_icmp .ge 33, 3) := by decide +kernel
theorem dX6_tab_10 : decode cX6_tab 10 = .ok (.aload_n 0, 1) := by decide +kernel
theorem dX6_tab_11 : decode cX6_tab 11 = .ok (.aload_n 0, 1) := by decide +kernel
theorem dX6_tab_12 : decode cX6_tab 12 = .ok (.iload_n 1, 1) := by decide +kernel
theorem dX6_tab_13 : decode cX6_tab 13 = .ok (.iload_n 2, 1) := by decide +kernel
theorem dX6_tab_14 : decode cX6_tab 14 = .ok (.iadd, 1) := by decide +kernel
theorem dX6_tab_15 : decode cX6_tab 15 = .ok (.invokevirtual 52, 3) := by decide +kernel
theorem dX6_tab_18 : decode cX6_tab 18 = .ok (.invokevirtual 177, 3) := by decide +kernel
theorem dX6_tab_21 : decode cX6_tab 21 = .ok (.ifCond .eq 13, 3) := by decide +kernel
theorem dX6_tab_24 : decode cX6_tab 24 = .ok (.aload_n 0, 1) := by decide +kernel
theorem dX6_tab_25 : decode cX6_tab 25 = .ok (.iload_n 1, 1) := by decide +kernel
theorem dX6_tab_26 : decode cX6_tab 26 = .ok (.iload_n 2, 1) := by decide +kernel
theorem dX6_tab_27 : decode cX6_tab 27 = .ok (.iadd, 1) := by decide +kernel
theorem dX6_tab_28 : decode cX6_tab 28 = .ok (.iconst 1, 1) := by decide +kernel
theorem dX6_tab_29 : decode cX6_tab 29 = .ok (.iadd, 1) := by decide +kernel
theorem dX6_tab_30 : decode cX6_tab 30 = .ok (.invokevirtual 52, 3) := by decide +kernel
theorem dX6_tab_33 : decode cX6_tab 33 = .ok (.ireturn, 1) := by decide +kernel
theorem dX6_tab_34 : decode cX6_tab 34 = .ok (.iinc 2 1, 3) := by decide +kernel
theorem dX6_tab_37 : decode cX6_tab 37 = .ok (.goto (-35), 3) := by decide +kernel
theorem dX6_tab_40 : decode cX6_tab 40 = .ok (.iconst 0, 1) := by decide +kernel
theorem dX6_tab_41 : decode cX6_tab 41 = .ok (.ireturn, 1) := by decide +kernel
set_option maxRecDepth 20000 in
theorem ggX6_tabBack_X6_round : GoodIn wsX6_tabBack wsX6_round := goodIn_r _ [7, 1, 17, 18, 19, 20, 21, 22, 23, 24, 25, 26, 27, 28, 29, 30, 31, 32, 33, 34, 35, 36, 37, 38, 39, 40, 41] (by decide +kernel) (by decide +kernel)
set_option maxRecDepth 20000 in
theorem gX6_tabBack_X6_round : GoodIn wsX6_tabBack (wsV RX6 52 RX6 yX6_round wsX6_round) := goodIn_app (goodIn_of _ (by decide +kernel)) ggX6_tabBack_X6_round
set_option maxRecDepth 20000 in
theorem ggX6_tabBack_X6_begins : GoodIn wsX6_tabBack wsX6_begins := goodIn_r _ [11, 12, 13, 14, 15, 6, 16, 3, 4, 5, 7, 1, 17, 18, 19, 20, 21, 22, 23, 24, 25, 26, 27, 28, 29, 30, 31, 32, 33, 34, 35, 36, 37, 38, 39, 40, 41] (by decide +kernel) (by decide +kernel)
set_option maxRecDepth 20000 in
theorem gX6_tabBack_X6_begins : GoodIn wsX6_tabBack (wsV RX6 177 RX6 yX6_begins wsX6_begins) := goodIn_app (goodIn_of _ (by decide +kernel)) ggX6_tabBack_X6_begins
theorem dX6_tabBack_0 : decode cX6_tabBack 0 = .ok (.iconst 1, 1) := by decide +kernel
theorem dX6_tabBack_1 : decode cX6_tabBack 1 = .ok (.istore_n 1, 1) := by decide +kernel
theorem dX6_tabBack_2 : decode cX6_tabBack 2 = .ok (.iload_n 1, 1) := by decide +kernel
theorem dX6_tabBack_3 : decode cX6_tabBack 3 = .ok (.aload_n 0, 1) := by decide +kernel
theorem dX6_tabBack_4 : decode cX6_tabBack 4 = .ok (.getfield 46, 3) := by decide +kernel
theorem dX6_tabBack_7 : decode cX6_tabBack 7 = .ok (.if_icmp .gt 39, 3) := by decide +kernel
theorem dX6_tabBack_10 : decode cX6_tabBack 10 = .ok (.aload_n 0, 1) := by decide +kernel
theorem dX6_tabBack_11 : decode cX6_tabBack 11 = .ok (.aload_n 0, 1) := by decide +kernel
theorem dX6_tabBack_12 : decode cX6_tabBack 12 = .ok (.aload_n 0, 1) := by decide +kernel
theorem dX6_tabBack_13 : decode cX6_tabBack 13 = .ok (.getfield 49, 3) := by decide +kernel
theorem dX6_tabBack_16 : decode cX6_tabBack 16 = .ok (.iload_n 1, 1) := by decide +kernel
theorem dX6_tabBack_17 : decode cX6_tabBack 17 = .ok (.isub, 1) := by decide +kernel
theorem dX6_tabBack_18 : decode cX6_tabBack 18 = .ok (.iconst 1, 1) := by decide +kernel
theorem dX6_tabBack_19 : decode cX6_tabBack 19 = .ok (.isub, 1) := by decide +kernel
theorem dX6_tabBack_20 : decode cX6_tabBack 20 = .ok (.invokevirtual 52, 3) := by decide +kernel
theorem dX6_tabBack_23 : decode cX6_tabBack 23 = .ok (.invokevirtual 177, 3) := by decide +kernel
theorem dX6_tabBack_26 : decode cX6_tabBack 26 = .ok (.ifCond .eq 14, 3) := by decide +kernel
theorem dX6_tabBack_29 : decode cX6_tabBack 29 = .ok (.aload_n 0, 1) := by decide +kernel
theorem dX6_tabBack_30 : decode cX6_tabBack 30 = .ok (.aload_n 0, 1) := by decide +kernel
theorem dX6_tabBack_31 : decode cX6_tabBack 31 = .ok (.getfield 49, 3) := by decide +kernel
theorem dX6_tabBack_34 : decode cX6_tabBack 34 = .ok (.iload_n 1, 1) := by decide +kernel
theorem dX6_tabBack_35 : decode cX6_tabBack 35 = .ok (.isub, 1) := by decide +kernel
theorem dX6_tabBack_36 : decode cX6_tabBack 36 = .ok (.invokevirtual 52, 3) := by decide +kernel
theorem dX6_tabBack_39 : decode cX6_tabBack 39 = .ok (.ireturn, 1) := by decide +kernel
theorem dX6_tabBack_40 : decode cX6_tabBack 40 = .ok (.iinc 1 1, 3) := by decide +kernel
theorem dX6_tabBack_43 : decode cX6_tabBack 43 = .ok (.goto (-41), 3) := by decide +kernel
theorem dX6_tabBack_46 : decode cX6_tabBack 46 = .ok (.iconst 0, 1) := by decide +kernel
theorem dX6_tabBack_47 : decode cX6_tabBack 47 = .ok (.ireturn, 1) := by decide +kernel
set_option maxRecDepth 20000 in
theorem ggX6_nextLine_X6_round : GoodIn wsX6_nextLine wsX6_round := goodIn_r _ [9, 4, 31, 32, 33, 34, 35, 36, 37, 38, 39, 40, 41, 42, 43, 44, 45, 46, 47, 48, 49, 50, 51, 52, 53, 54, 55] (by decide +kernel) (by decide +kernel)
set_option maxRecDepth 20000 in
theorem gX6_nextLine_X6_round : GoodIn wsX6_nextLine (wsV RX6 52 RX6 yX6_round wsX6_round) := goodIn_app (goodIn_of _ (by decide +kernel)) ggX6_nextLine_X6_round
set_option maxRecDepth 20000 in
theorem ggX6_nextLine_X6_mayBeTyped : GoodIn wsX6_nextLine wsX6_mayBeTyped := goodIn_r _ [13, 14, 15, 16, 8, 17, 18, 19, 20, 21, 22, 23, 24, 25, 26, 27, 28, 29, 30, 4, 5, 6, 7, 9, 31, 32, 33, 34, 35, 36, 37, 38, 39, 40, 41, 42, 43, 44, 45, 46, 47, 48, 49, 50, 51, 52, 53, 54, 55] (by decide +kernel) (by decide +kernel)
set_option maxRecDepth 20000 in
theorem gX6_nextLine_X6_mayBeTyped : GoodIn wsX6_nextLine (wsV RX6 107 RX6 yX6_mayBeTyped wsX6_mayBeTyped) := goodIn_app (goodIn_of _ (by decide +kernel)) ggX6_nextLine_X6_mayBeTyped
theorem dX6_nextLine_0 : decode cX6_nextLine 0 = .ok (.aload_n 0, 1) := by decide +kernel
theorem dX6_nextLine_1 : decode cX6_nextLine 1 = .ok (.getfield 49, 3) := by decide +kernel
theorem dX6_nextLine_4 : decode cX6_nextLine 4 = .ok (.aload_n 0, 1) := by decide +kernel
theorem dX6_nextLine_5 : decode cX6_nextLine 5 = .ok (.getfield 43, 3) := by decide +kernel
theorem dX6_nextLine_8 : decode cX6_nextLine 8 = .ok (.idiv, 1) := by decide +kernel
theorem dX6_nextLine_9 : decode cX6_nextLine 9 = .ok (.iconst 1, 1) := by decide +kernel
theorem dX6_nextLine_10 : decode cX6_nextLine 10 = .ok (.iadd, 1) := by decide +kernel
theorem dX6_nextLine_11 : decode cX6_nextLine 11 = .ok (.aload_n 0, 1) := by decide +kernel
theorem dX6_nextLine_12 : decode cX6_nextLine 12 = .ok (.getfield 40, 3) := by decide +kernel
theorem dX6_nextLine_15 : decode cX6_nextLine 15 = .ok (.irem, 1) := by decide +kernel
theorem dX6_nextLine_16 : decode cX6_nextLine 16 = .ok (.aload_n 0, 1) := by decide +kernel
theorem dX6_nextLine_17 : decode cX6_nextLine 17 = .ok (.getfield 43, 3) := by decide +kernel
theorem dX6_nextLine_20 : decode cX6_nextLine 20 = .ok (.imul, 1) := by decide +kernel
theorem dX6_nextLine_21 : decode cX6_nextLine 21 = .ok (.istore_n 1, 1) := by decide +kernel
theorem dX6_nextLine_22 : decode cX6_nextLine 22 = .ok (.iconst 0, 1) := by decide +kernel
theorem dX6_nextLine_23 : decode cX6_nextLine 23 = .ok (.istore_n 2, 1) := by decide +kernel
theorem dX6_nextLine_24 : decode cX6_nextLine 24 = .ok (.iload_n 2, 1) := by decide +kernel
theorem dX6_nextLine_25 : decode cX6_nextLine 25 = .ok (.aload_n 0, 1) := by decide +kernel
theorem dX6_nextLine_26 : decode cX6_nextLine 26 = .ok (.getfield 46, 3) := by decide +kernel
theorem dX6_nextLine_29 : decode cX6_nextLine 29 = .ok (.if_icmp .ge 31, 3) := by decide +kernel
theorem dX6_nextLine_32 : decode cX6_nextLine 32 = .ok (.aload_n 0, 1) := by decide +kernel
theorem dX6_nextLine_33 : decode cX6_nextLine 33 = .ok (.aload_n 0, 1) := by decide +kernel
theorem dX6_nextLine_34 : decode cX6_nextLine 34 = .ok (.iload_n 1, 1) := by decide +kernel
theorem dX6_nextLine_35 : decode cX6_nextLine 35 = .ok (.iload_n 2, 1) := by decide +kernel
theorem dX6_nextLine_36 : decode cX6_nextLine 36 = .ok (.iadd, 1) := by decide +kernel
theorem dX6_nextLine_37 : decode cX6_nextLine 37 = .ok (.invokevirtual 52, 3) := by decide +kernel
theorem dX6_nextLine_40 : decode cX6_nextLine 40 = .ok (.invokevirtual 107, 3) := by decide +kernel
theorem dX6_nextLine_43 : decode cX6_nextLine 43 = .ok (.ifCond .eq 11, 3) := by decide +kernel
theorem dX6_nextLine_46 : decode cX6_nextLine 46 = .ok (.aload_n 0, 1) := by decide +kernel
theorem dX6_nextLine_47 : decode cX6_nextLine 47 = .ok (.iload_n 1, 1) := by decide +kernel
theorem dX6_nextLine_48 : decode cX6_nextLine 48 = .ok (.iload_n 2, 1) := by decide +kernel
theorem dX6_nextLine_49 : decode cX6_nextLine 49 = .ok (.iadd, 1) := by decide +kernel
theorem dX6_nextLine_50 : decode cX6_nextLine 50 = .ok (.invokevirtual 52, 3) := by decide +kernel
theorem dX6_nextLine_53 : decode cX6_nextLine 53 = .ok (.ireturn, 1) := by decide +kernel
theorem dX6_nextLine_54 : decode cX6_nextLine 54 = .ok (.iinc 2 1, 3) := by decide +kernel
theorem dX6_nextLine_57 : decode cX6_nextLine 57 = .ok (.goto (-33), 3) := by decide +kernel
theorem dX6_nextLine_60 : decode cX6_nextLine 60 = .ok (.iconst 0, 1) := by decide +kernel
theorem dX6_nextLine_61 : decode cX6_nextLine 61 = .ok (.ireturn, 1) := by decide +kernel
set_option maxRecDepth 20000 in
theorem ggX6_refuse_X6_lock : GoodIn wsX6_refuse wsX6_lock := goodIn_r _ [5, 6, 7, 8, 9, 10, 11, 12, 13, 14, 15, 16, 17, 18, 19, 20, 21, 22, 23, 24, 25, 26, 27, 28, 29, 30, 31] (by decide +kernel) (by decide +kernel)
set_option maxRecDepth 20000 in
theorem gX6_refuse_X6_lock : GoodIn wsX6_refuse (wsV RX6 153 RX6 yX6_lock wsX6_lock) := goodIn_app (goodIn_of _ (by decide +kernel)) ggX6_refuse_X6_lock
theorem dX6_refuse_0 : decode cX6_refuse 0 = .ok (.aload_n 0, 1) := by decide +kernel
theorem dX6_refuse_1 : decode cX6_refuse 1 = .ok (.invokevirtual 153, 3) := by decide +kernel
theorem dX6_refuse_4 : decode cX6_refuse 4 = .ok (.iconst 0, 1) := by decide +kernel
theorem dX6_refuse_5 : decode cX6_refuse 5 = .ok (.ireturn, 1) := by decide +kernel
set_option maxRecDepth 20000 in
theorem ggX6_eraseToEnd_X6_mayBeTyped : GoodIn wsX6_eraseToEnd wsX6_mayBeTyped := goodIn_r _ [7, 8, 9, 10, 6, 11, 2, 12, 13, 14, 15, 16, 17, 18, 19, 20, 21, 22, 23, 24, 25, 26, 27, 28, 50, 51, 52, 53, 54, 55, 56, 57, 58, 59, 60, 61, 62, 63, 64, 65, 66, 67, 68, 69, 70, 71, 72, 73, 74] (by decide +kernel) (by decide +kernel)
set_option maxRecDepth 20000 in
theorem gX6_eraseToEnd_X6_mayBeTyped : GoodIn wsX6_eraseToEnd (wsV RX6 107 RX6 yX6_mayBeTyped wsX6_mayBeTyped) := goodIn_app (goodIn_of _ (by decide +kernel)) ggX6_eraseToEnd_X6_mayBeTyped
set_option maxRecDepth 20000 in
theorem ggX6_eraseToEnd_X6_refuse : GoodIn wsX6_eraseToEnd wsX6_refuse := goodIn_r _ [32, 33, 34, 35, 6, 36, 37, 50, 51, 52, 53, 54, 55, 56, 57, 58, 59, 60, 61, 62, 63, 64, 65, 66, 67, 68, 69, 70, 71, 72, 73, 74] (by decide +kernel) (by decide +kernel)
set_option maxRecDepth 20000 in
theorem gX6_eraseToEnd_X6_refuse : GoodIn wsX6_eraseToEnd (wsV RX6 180 RX6 yX6_refuse wsX6_refuse) := goodIn_app (goodIn_of _ (by decide +kernel)) ggX6_eraseToEnd_X6_refuse
set_option maxRecDepth 20000 in
theorem ggX6_eraseToEnd_X6_toEnd : GoodIn wsX6_eraseToEnd wsX6_toEnd := goodIn_r _ [41, 24, 42, 43, 44, 6, 45, 8, 9, 10, 11, 2, 25, 26, 27, 28, 50, 51, 52, 53, 54, 55, 56, 57, 58, 59, 60, 61, 62, 63, 64, 65, 66, 67, 68, 69, 70, 71, 72, 73, 74] (by decide +kernel) (by decide +kernel)
set_option maxRecDepth 20000 in
theorem gX6_eraseToEnd_X6_toEnd : GoodIn wsX6_eraseToEnd (wsV RX6 183 RX6 yX6_toEnd wsX6_toEnd) := goodIn_app (goodIn_of _ (by decide +kernel)) ggX6_eraseToEnd_X6_toEnd
set_option maxRecDepth 20000 in
theorem ggX6_eraseToEnd_X6_round : GoodIn wsX6_eraseToEnd wsX6_round := goodIn_r _ [28, 24, 50, 51, 52, 53, 54, 55, 56, 57, 58, 59, 60, 61, 62, 63, 64, 65, 66, 67, 68, 69, 70, 71, 72, 73, 74] (by decide +kernel) (by decide +kernel)
set_option maxRecDepth 20000 in
theorem gX6_eraseToEnd_X6_round : GoodIn wsX6_eraseToEnd (wsV RX6 52 RX6 yX6_round wsX6_round) := goodIn_app (goodIn_of _ (by decide +kernel)) ggX6_eraseToEnd_X6_round
set_option maxRecDepth 20000 in
theorem ggX6_eraseToEnd_X6_modify : GoodIn wsX6_eraseToEnd wsX6_modify := goodIn_r _ [49, 2, 20, 21, 22, 6, 23, 24, 25, 26, 27, 28, 8, 9, 10, 11, 50, 51, 52, 53, 54, 55, 56, 57, 58, 59, 60, 61, 62, 63, 64, 65, 66, 67, 68, 69, 70, 71, 72, 73, 74] (by decide +kernel) (by decide +kernel)
set_option maxRecDepth 20000 in
theorem gX6_eraseToEnd_X6_modify : GoodIn wsX6_eraseToEnd (wsV RX6 186 RX6 yX6_modify wsX6_modify) := goodIn_app (goodIn_of _ (by decide +kernel)) ggX6_eraseToEnd_X6_modify
theorem dX6_eraseToEnd_0 : decode cX6_eraseToEnd 0 = .ok (.aload_n 0, 1) := by decide +kernel
theorem dX6_eraseToEnd_1 : decode cX6_eraseToEnd 1 = .ok (.aload_n 0, 1) := by decide +kernel
theorem dX6_eraseToEnd_2 : decode cX6_eraseToEnd 2 = .ok (.getfield 49, 3) := by decide +kernel
theorem dX6_eraseToEnd_5 : decode cX6_eraseToEnd 5 = .ok (.invokevirtual 107, 3) := by decide +kernel
theorem dX6_eraseToEnd_8 : decode cX6_eraseToEnd 8 = .ok (.ifCond .ne 8, 3) := by decide +kernel
theorem dX6_eraseToEnd_11 : decode cX6_eraseToEnd 11 = .ok (.aload_n 0, 1) := by decide +kernel
theorem dX6_eraseToEnd_12 : decode cX6_eraseToEnd 12 = .ok (.invokevirtual 180, 3) := by decide +kernel
theorem dX6_eraseToEnd_15 : decode cX6_eraseToEnd 15 = .ok (.ireturn, 1) := by decide +kernel
theorem dX6_eraseToEnd_16 : decode cX6_eraseToEnd 16 = .ok (.aload_n 0, 1) := by decide +kernel
theorem dX6_eraseToEnd_17 : decode cX6_eraseToEnd 17 = .ok (.aload_n 0, 1) := by decide +kernel
theorem dX6_eraseToEnd_18 : decode cX6_eraseToEnd 18 = .ok (.getfield 49, 3) := by decide +kernel
theorem dX6_eraseToEnd_21 : decode cX6_eraseToEnd 21 = .ok (.invokevirtual 183, 3) := by decide +kernel
theorem dX6_eraseToEnd_24 : decode cX6_eraseToEnd 24 = .ok (.istore_n 1, 1) := by decide +kernel
theorem dX6_eraseToEnd_25 : decode cX6_eraseToEnd 25 = .ok (.iconst 0, 1) := by decide +kernel
theorem dX6_eraseToEnd_26 : decode cX6_eraseToEnd 26 = .ok (.istore_n 2, 1) := by decide +kernel
theorem dX6_eraseToEnd_27 : decode cX6_eraseToEnd 27 = .ok (.iload_n 2, 1) := by decide +kernel
theorem dX6_eraseToEnd_28 : decode cX6_eraseToEnd 28 = .ok (.iload_n 1, 1) := by decide +kernel
theorem dX6_eraseToEnd_29 : decode cX6_eraseToEnd 29 = .ok (.if_icmp .ge 25, 3) := by decide +kernel
theorem dX6_eraseToEnd_32 : decode cX6_eraseToEnd 32 = .ok (.aload_n 0, 1) := by decide +kernel
theorem dX6_eraseToEnd_33 : decode cX6_eraseToEnd 33 = .ok (.getfield 7, 3) := by decide +kernel
theorem dX6_eraseToEnd_36 : decode cX6_eraseToEnd 36 = .ok (.aload_n 0, 1) := by decide +kernel
theorem dX6_eraseToEnd_37 : decode cX6_eraseToEnd 37 = .ok (.aload_n 0, 1) := by decide +kernel
theorem dX6_eraseToEnd_38 : decode cX6_eraseToEnd 38 = .ok (.getfield 49, 3) := by decide +kernel
theorem dX6_eraseToEnd_41 : decode cX6_eraseToEnd 41 = .ok (.iload_n 2, 1) := by decide +kernel
theorem dX6_eraseToEnd_42 : decode cX6_eraseToEnd 42 = .ok (.iadd, 1) := by decide +kernel
theorem dX6_eraseToEnd_43 : decode cX6_eraseToEnd 43 = .ok (.invokevirtual 52, 3) := by decide +kernel
theorem dX6_eraseToEnd_46 : decode cX6_eraseToEnd 46 = .ok (.iconst 0, 1) := by decide +kernel
theorem dX6_eraseToEnd_47 : decode cX6_eraseToEnd 47 = .ok (.iastore, 1) := by decide +kernel
theorem dX6_eraseToEnd_48 : decode cX6_eraseToEnd 48 = .ok (.iinc 2 1, 3) := by decide +kernel
theorem dX6_eraseToEnd_51 : decode cX6_eraseToEnd 51 = .ok (.goto (-24), 3) := by decide +kernel
theorem dX6_eraseToEnd_54 : decode cX6_eraseToEnd 54 = .ok (.aload_n 0, 1) := by decide +kernel
theorem dX6_eraseToEnd_55 : decode cX6_eraseToEnd 55 = .ok (.aload_n 0, 1) := by decide +kernel
theorem dX6_eraseToEnd_56 : decode cX6_eraseToEnd 56 = .ok (.getfield 49, 3) := by decide +kernel
theorem dX6_eraseToEnd_59 : decode cX6_eraseToEnd 59 = .ok (.invokevirtual 186, 3) := by decide +kernel
theorem dX6_eraseToEnd_62 : decode cX6_eraseToEnd 62 = .ok (.iconst 1, 1) := by decide +kernel
theorem dX6_eraseToEnd_63 : decode cX6_eraseToEnd 63 = .ok (.ireturn, 1) := by decide +kernel
set_option maxRecDepth 20000 in
theorem ggX6_deleteSign_X6_mayBeTyped : GoodIn wsX6_deleteSign wsX6_mayBeTyped := goodIn_r _ [8, 9, 10, 11, 7, 12, 3, 13, 14, 15, 16, 17, 18, 19, 20, 21, 22, 23, 24, 25, 26, 27, 28, 29, 51, 52, 53, 54, 55, 56, 57, 58, 59, 60, 61, 62, 63, 64, 65, 66, 67, 68, 69, 70, 71, 72, 73, 74, 75] (by decide +kernel) (by decide +kernel)
set_option maxRecDepth 20000 in
theorem gX6_deleteSign_X6_mayBeTyped : GoodIn wsX6_deleteSign (wsV RX6 107 RX6 yX6_mayBeTyped wsX6_mayBeTyped) := goodIn_app (goodIn_of _ (by decide +kernel)) ggX6_deleteSign_X6_mayBeTyped
set_option maxRecDepth 20000 in
theorem ggX6_deleteSign_X6_refuse : GoodIn wsX6_deleteSign wsX6_refuse := goodIn_r _ [33, 34, 35, 36, 7, 37, 38, 51, 52, 53, 54, 55, 56, 57, 58, 59, 60, 61, 62, 63, 64, 65, 66, 67, 68, 69, 70, 71, 72, 73, 74, 75] (by decide +kernel) (by decide +kernel)
set_option maxRecDepth 20000 in
theorem gX6_deleteSign_X6_refuse : GoodIn wsX6_deleteSign (wsV RX6 180 RX6 yX6_refuse wsX6_refuse) := goodIn_app (goodIn_of _ (by decide +kernel)) ggX6_deleteSign_X6_refuse
set_option maxRecDepth 20000 in
theorem ggX6_deleteSign_X6_toEnd : GoodIn wsX6_deleteSign wsX6_toEnd := goodIn_r _ [42, 25, 43, 44, 45, 7, 46, 9, 10, 11, 12, 3, 26, 27, 28, 29, 51, 52, 53, 54, 55, 56, 57, 58, 59, 60, 61, 62, 63, 64, 65, 66, 67, 68, 69, 70, 71, 72, 73, 74, 75] (by decide +kernel) (by decide +kernel)
set_option maxRecDepth 20000 in
theorem gX6_deleteSign_X6_toEnd : GoodIn wsX6_deleteSign (wsV RX6 183 RX6 yX6_toEnd wsX6_toEnd) := goodIn_app (goodIn_of _ (by decide +kernel)) ggX6_deleteSign_X6_toEnd
set_option maxRecDepth 20000 in
theorem ggX6_deleteSign_X6_modify : GoodIn wsX6_deleteSign wsX6_modify := goodIn_r _ [50, 3, 21, 22, 23, 7, 24, 25, 26, 27, 28, 29, 9, 10, 11, 12, 51, 52, 53, 54, 55, 56, 57, 58, 59, 60, 61, 62, 63, 64, 65, 66, 67, 68, 69, 70, 71, 72, 73, 74, 75] (by decide +kernel) (by decide +kernel)
set_option maxRecDepth 20000 in
theorem gX6_deleteSign_X6_modify : GoodIn wsX6_deleteSign (wsV RX6 186 RX6 yX6_modify wsX6_modify) := goodIn_app (goodIn_of _ (by decide +kernel)) ggX6_deleteSign_X6_modify
theorem dX6_deleteSign_0 : decode cX6_deleteSign 0 = .ok (.aload_n 0, 1) := by decide +kernel
theorem dX6_deleteSign_1 : decode cX6_deleteSign 1 = .ok (.aload_n 0, 1) := by decide +kernel
theorem dX6_deleteSign_2 : decode cX6_deleteSign 2 = .ok (.getfield 49, 3) := by decide +kernel
theorem dX6_deleteSign_5 : decode cX6_deleteSign 5 = .ok (.invokevirtual 107, 3) := by decide +kernel
theorem dX6_deleteSign_8 : decode cX6_deleteSign 8 = .ok (.ifCond .ne 8, 3) := by decide +kernel
theorem dX6_deleteSign_11 : decode cX6_deleteSign 11 = .ok (.aload_n 0, 1) := by decide +kernel
theorem dX6_deleteSign_12 : decode cX6_deleteSign 12 = .ok (.invokevirtual 180, 3) := by decide +kernel
theorem dX6_deleteSign_15 : decode cX6_deleteSign 15 = .ok (.ireturn, 1) := by decide +kernel
theorem dX6_deleteSign_16 : decode cX6_deleteSign 16 = .ok (.aload_n 0, 1) := by decide +kernel
theorem dX6_deleteSign_17 : decode cX6_deleteSign 17 = .ok (.aload_n 0, 1) := by decide +kernel
theorem dX6_deleteSign_18 : decode cX6_deleteSign 18 = .ok (.getfield 49, 3) := by decide +kernel
theorem dX6_deleteSign_21 : decode cX6_deleteSign 21 = .ok (.invokevirtual 183, 3) := by decide +kernel
theorem dX6_deleteSign_24 : decode cX6_deleteSign 24 = .ok (.istore_n 1, 1) := by decide +kernel
theorem dX6_deleteSign_25 : decode cX6_deleteSign 25 = .ok (.aload_n 0, 1) := by decide +kernel
theorem dX6_deleteSign_26 : decode cX6_deleteSign 26 = .ok (.getfield 43, 3) := by decide +kernel
theorem dX6_deleteSign_29 : decode cX6_deleteSign 29 = .ok (.aload_n 0, 1) := by decide +kernel
theorem dX6_deleteSign_30 : decode cX6_deleteSign 30 = .ok (.getfield 49, 3) := by decide +kernel
theorem dX6_deleteSign_33 : decode cX6_deleteSign 33 = .ok (.aload_n 0, 1) := by decide +kernel
theorem dX6_deleteSign_34 : decode cX6_deleteSign 34 = .ok (.getfield 43, 3) := by decide +kernel
theorem dX6_deleteSign_37 : decode cX6_deleteSign 37 = .ok (.irem, 1) := by decide +kernel
theorem dX6_deleteSign_38 : decode cX6_deleteSign 38 = .ok (.isub, 1) := by decide +kernel
theorem dX6_deleteSign_39 : decode cX6_deleteSign 39 = .ok (.istore_n 2, 1) := by decide +kernel
theorem dX6_deleteSign_40 : decode cX6_deleteSign 40 = .ok (.iload_n 2, 1) := by decide +kernel
theorem dX6_deleteSign_41 : decode cX6_deleteSign 41 = .ok (.iload_n 1, 1) := by decide +kernel
theorem dX6_deleteSign_42 : decode cX6_deleteSign 42 = .ok (.if_icmp .ge 5, 3) := by decide +kernel
theorem dX6_deleteSign_45 : decode cX6_deleteSign 45 = .ok (.iload_n 2, 1) := by decide +kernel
theorem dX6_deleteSign_46 : decode cX6_deleteSign 46 = .ok (.istore_n 1, 1) := by decide +kernel
theorem dX6_deleteSign_47 : decode cX6_deleteSign 47 = .ok (.iconst 0, 1) := by decide +kernel
theorem dX6_deleteSign_48 : decode cX6_deleteSign 48 = .ok (.istore_n 3, 1) := by decide +kernel
theorem dX6_deleteSign_49 : decode cX6_deleteSign 49 = .ok (.iload_n 3, 1) := by decide +kernel
theorem dX6_deleteSign_50 : decode cX6_deleteSign 50 = .ok (.iload_n 1, 1) := by decide +kernel
theorem dX6_deleteSign_51 : decode cX6_deleteSign 51 = .ok (.if_icmp .ge 44, 3) := by decide +kernel
theorem dX6_deleteSign_54 : decode cX6_deleteSign 54 = .ok (.aload_n 0, 1) := by decide +kernel
theorem dX6_deleteSign_55 : decode cX6_deleteSign 55 = .ok (.getfield 7, 3) := by decide +kernel
theorem dX6_deleteSign_58 : decode cX6_deleteSign 58 = .ok (.aload_n 0, 1) := by decide +kernel
theorem dX6_deleteSign_59 : decode cX6_deleteSign 59 = .ok (.getfield 49, 3) := by decide +kernel
theorem dX6_deleteSign_62 : decode cX6_deleteSign 62 = .ok (.iload_n 3, 1) := by decide +kernel
theorem dX6_deleteSign_63 : decode cX6_deleteSign 63 = .ok (.iadd, 1) := by decide +kernel
theorem dX6_deleteSign_64 : decode cX6_deleteSign 64 = .ok (.iload_n 3, 1) := by decide +kernel
theorem dX6_deleteSign_65 : decode cX6_deleteSign 65 = .ok (.iconst 1, 1) := by decide +kernel
theorem dX6_deleteSign_66 : decode cX6_deleteSign 66 = .ok (.iadd, 1) := by decide +kernel
theorem dX6_deleteSign_67 : decode cX6_deleteSign 67 = .ok (.iload_n 1, 1) := by decide +kernel
theorem dX6_deleteSign_68 : decode cX6_deleteSign 68 = .ok (.if_icmp .ge 19, 3) := by decide +kernel
theorem dX6_deleteSign_71 : decode cX6_deleteSign 71 = .ok (.aload_n 0, 1) := by decide +kernel
theorem dX6_deleteSign_72 : decode cX6_deleteSign 72 = .ok (.getfield 7, 3) := by decide +kernel
theorem dX6_deleteSign_75 : decode cX6_deleteSign 75 = .ok (.aload_n 0, 1) := by decide +kernel
theorem dX6_deleteSign_76 : decode cX6_deleteSign 76 = .ok (.getfield 49, 3) := by decide +kernel
theorem dX6_deleteSign_79 : decode cX6_deleteSign 79 = .ok (.iload_n 3, 1) := by decide +kernel
theorem dX6_deleteSign_80 : decode cX6_deleteSign 80 = .ok (.iadd, 1) := by decide +kernel
theorem dX6_deleteSign_81 : decode cX6_deleteSign 81 = .ok (.iconst 1, 1) := by decide +kernel
theorem dX6_deleteSign_82 : decode cX6_deleteSign 82 = .ok (.iadd, 1) := by decide +kernel
theorem dX6_deleteSign_83 : decode cX6_deleteSign 83 = .ok (.iaload, 1) := by decide +kernel
theorem dX6_deleteSign_84 : decode cX6_deleteSign 84 = .ok (.goto 4, 3) := by decide +kernel
theorem dX6_deleteSign_87 : decode cX6_deleteSign 87 = .ok (.iconst 0, 1) := by decide +kernel
theorem dX6_deleteSign_88 : decode cX6_deleteSign 88 = .ok (.iastore, 1) := by decide +kernel
theorem dX6_deleteSign_89 : decode cX6_deleteSign 89 = .ok (.iinc 3 1, 3) := by decide +kernel
theorem dX6_deleteSign_92 : decode cX6_deleteSign 92 = .ok (.goto (-43), 3) := by decide +kernel
theorem dX6_deleteSign_95 : decode cX6_deleteSign 95 = .ok (.aload_n 0, 1) := by decide +kernel
theorem dX6_deleteSign_96 : decode cX6_deleteSign 96 = .ok (.aload_n 0, 1) := by decide +kernel
theorem dX6_deleteSign_97 : decode cX6_deleteSign 97 = .ok (.getfield 49, 3) := by decide +kernel
theorem dX6_deleteSign_100 : decode cX6_deleteSign 100 = .ok (.invokevirtual 186, 3) := by decide +kernel
theorem dX6_deleteSign_103 : decode cX6_deleteSign 103 = .ok (.iconst 1, 1) := by decide +kernel
theorem dX6_deleteSign_104 : decode cX6_deleteSign 104 = .ok (.ireturn, 1) := by decide +kernel
theorem dX6_sendingKey_0 : decode cX6_sendingKey 0 = .ok (.iload_n 0, 1) := by decide +kernel
theorem dX6_sendingKey_1 : decode cX6_sendingKey 1 = .ok (.iconst 1, 1) := by decide +kernel
theorem dX6_sendingKey_2 : decode cX6_sendingKey 2 = .ok (.if_icmp .ne 6, 3) := by decide +kernel
theorem dX6_sendingKey_5 : decode cX6_sendingKey 5 = .ok (.bipush 125, 2) := by decide +kernel
theorem dX6_sendingKey_7 : decode cX6_sendingKey 7 = .ok (.ireturn, 1) := by decide +kernel
theorem dX6_sendingKey_8 : decode cX6_sendingKey 8 = .ok (.iload_n 0, 1) := by decide +kernel
theorem dX6_sendingKey_9 : decode cX6_sendingKey 9 = .ok (.bipush 11, 2) := by decide +kernel
theorem dX6_sendingKey_11 : decode cX6_sendingKey 11 = .ok (.if_icmp .lt 15, 3) := by decide +kernel
theorem dX6_sendingKey_14 : decode cX6_sendingKey 14 = .ok (.iload_n 0, 1) := by decide +kernel
theorem dX6_sendingKey_15 : decode cX6_sendingKey 15 = .ok (.bipush 19, 2) := by decide +kernel
theorem dX6_sendingKey_17 : decode cX6_sendingKey 17 = .ok (.if_icmp .gt 9, 3) := by decide +kernel
theorem dX6_sendingKey_20 : decode cX6_sendingKey 20 = .ok (.sipush 230, 3) := by decide +kernel
theorem dX6_sendingKey_23 : decode cX6_sendingKey 23 = .ok (.iload_n 0, 1) := by decide +kernel
theorem dX6_sendingKey_24 : decode cX6_sendingKey 24 = .ok (.iadd, 1) := by decide +kernel
theorem dX6_sendingKey_25 : decode cX6_sendingKey 25 = .ok (.ireturn, 1) := by decide +kernel
theorem dX6_sendingKey_26 : decode cX6_sendingKey 26 = .ok (.iload_n 0, 1) := by decide +kernel
theorem dX6_sendingKey_27 : decode cX6_sendingKey 27 = .ok (.bipush 20, 2) := by decide +kernel
theorem dX6_sendingKey_29 : decode cX6_sendingKey 29 = .ok (.if_icmp .lt 16, 3) := by decide +kernel
theorem dX6_sendingKey_32 : decode cX6_sendingKey 32 = .ok (.iload_n 0, 1) := by decide +kernel
theorem dX6_sendingKey_33 : decode cX6_sendingKey 33 = .ok (.bipush 22, 2) := by decide +kernel
theorem dX6_sendingKey_35 : decode cX6_sendingKey 35 = .ok (.if_icmp .gt 10, 3) := by decide +kernel
theorem dX6_sendingKey_38 : decode cX6_sendingKey 38 = .ok (.bipush 102, 2) := by decide +kernel
theorem dX6_sendingKey_40 : decode cX6_sendingKey 40 = .ok (.iload_n 0, 1) := by decide +kernel
theorem dX6_sendingKey_41 : decode cX6_sendingKey 41 = .ok (.iadd, 1) := by decide +kernel
theorem dX6_sendingKey_42 : decode cX6_sendingKey 42 = .ok (.goto 4, 3) := by decide +kernel
theorem dX6_sendingKey_45 : decode cX6_sendingKey 45 = .ok (.iconst (-1), 1) := by decide +kernel
theorem dX6_sendingKey_46 : decode cX6_sendingKey 46 = .ok (.ireturn, 1) := by decide +kernel
theorem dX6_shortKey_0 : decode cX6_shortKey 0 = .ok (.iload_n 0, 1) := by decide +kernel
theorem dX6_shortKey_1 : decode cX6_shortKey 1 = .ok (.iconst 2, 1) := by decide +kernel
theorem dX6_shortKey_2 : decode cX6_shortKey 2 = .ok (.if_icmp .ne 8, 3) := by decide +kernel
theorem dX6_shortKey_5 : decode cX6_shortKey 5 = .ok (.bipush 109, 2) := by decide +kernel
theorem dX6_shortKey_7 : decode cX6_shortKey 7 = .ok (.goto 34, 3) := by decide +kernel
theorem dX6_shortKey_10 : decode cX6_shortKey 10 = .ok (.iload_n 0, 1) := by decide +kernel
theorem dX6_shortKey_11 : decode cX6_shortKey 11 = .ok (.iconst 3, 1) := by decide +kernel
theorem dX6_shortKey_12 : decode cX6_shortKey 12 = .ok (.if_icmp .ne 8, 3) := by decide +kernel
theorem dX6_shortKey_15 : decode cX6_shortKey 15 = .ok (.bipush 108, 2) := by decide +kernel
theorem dX6_shortKey_17 : decode cX6_shortKey 17 = .ok (.goto 24, 3) := by decide +kernel
theorem dX6_shortKey_20 : decode cX6_shortKey 20 = .ok (.iload_n 0, 1) := by decide +kernel
theorem dX6_shortKey_21 : decode cX6_shortKey 21 = .ok (.iconst 4, 1) := by decide +kernel
theorem dX6_shortKey_22 : decode cX6_shortKey 22 = .ok (.if_icmp .ne 8, 3) := by decide +kernel
theorem dX6_shortKey_25 : decode cX6_shortKey 25 = .ok (.bipush 110, 2) := by decide +kernel
theorem dX6_shortKey_27 : decode cX6_shortKey 27 = .ok (.goto 14, 3) := by decide +kernel
theorem dX6_shortKey_30 : decode cX6_shortKey 30 = .ok (.iload_n 0, 1) := by decide +kernel
theorem dX6_shortKey_31 : decode cX6_shortKey 31 = .ok (.iconst 5, 1) := by decide +kernel
theorem dX6_shortKey_32 : decode cX6_shortKey 32 = .ok (.if_icmp .ne 8, 3) := by decide +kernel
theorem dX6_shortKey_35 : decode cX6_shortKey 35 = .ok (.bipush 107, 2) := by decide +kernel
theorem dX6_shortKey_37 : decode cX6_shortKey 37 = .ok (.goto 4, 3) := by decide +kernel
theorem dX6_shortKey_40 : decode cX6_shortKey 40 = .ok (.iconst (-1), 1) := by decide +kernel
theorem dX6_shortKey_41 : decode cX6_shortKey 41 = .ok (.ireturn, 1) := by decide +kernel
set_option maxRecDepth 20000 in
theorem ggX6_move_X6_tab : GoodIn wsX6_move wsX6_tab := goodIn_r _ [9, 3, 10, 11, 12, 8, 13, 14, 15, 16, 17, 18, 19, 20, 21, 22, 47, 48, 49, 50, 51, 52, 53, 54, 55, 56, 57, 58, 59, 60, 61, 62, 63, 64, 65, 66, 67, 68, 69, 70, 71] (by decide +kernel) (by decide +kernel)
set_option maxRecDepth 20000 in
theorem gX6_move_X6_tab : GoodIn wsX6_move (wsV RX6 189 RX6 yX6_tab wsX6_tab) := goodIn_app (goodIn_of _ (by decide +kernel)) ggX6_move_X6_tab
set_option maxRecDepth 20000 in
theorem ggX6_move_X6_tabBack : GoodIn wsX6_move wsX6_tabBack := goodIn_r _ [26, 3, 1, 10, 11, 12, 8, 13, 14, 15, 16, 17, 18, 19, 20, 21, 22, 47, 48, 49, 50, 51, 52, 53, 54, 55, 56, 57, 58, 59, 60, 61, 62, 63, 64, 65, 66, 67, 68, 69, 70, 71] (by decide +kernel) (by decide +kernel)
set_option maxRecDepth 20000 in
theorem gX6_move_X6_tabBack : GoodIn wsX6_move (wsV RX6 192 RX6 yX6_tabBack wsX6_tabBack) := goodIn_app (goodIn_of _ (by decide +kernel)) ggX6_move_X6_tabBack
set_option maxRecDepth 20000 in
theorem ggX6_move_X6_nextLine : GoodIn wsX6_move wsX6_nextLine := goodIn_r _ [30, 1, 2, 4, 3, 10, 11, 12, 8, 13, 31, 32, 33, 34, 19, 20, 21, 22, 18, 35, 36, 37, 38, 39, 40, 41, 42, 43, 44, 45, 46, 47, 48, 49, 50, 51, 52, 53, 54, 55, 56, 57, 58, 59, 60, 61, 62, 63, 64, 65, 66, 67, 68, 69, 70, 71] (by decide +kernel) (by decide +kernel)
set_option maxRecDepth 20000 in
theorem gX6_move_X6_nextLine : GoodIn wsX6_move (wsV RX6 195 RX6 yX6_nextLine wsX6_nextLine) := goodIn_app (goodIn_of _ (by decide +kernel)) ggX6_move_X6_nextLine
set_option maxRecDepth 20000 in
theorem ggX6_move_X6_round : GoodIn wsX6_move wsX6_round := goodIn_r _ [13, 3, 47, 48, 49, 50, 51, 52, 53, 54, 55, 56, 57, 58, 59, 60, 61, 62, 63, 64, 65, 66, 67, 68, 69, 70, 71] (by decide +kernel) (by decide +kernel)
set_option maxRecDepth 20000 in
theorem gX6_move_X6_round : GoodIn wsX6_move (wsV RX6 52 RX6 yX6_round wsX6_round) := goodIn_app (goodIn_of _ (by decide +kernel)) ggX6_move_X6_round
theorem dX6_move_0 : decode cX6_move 0 = .ok (.aload_n 0, 1) := by decide +kernel
theorem dX6_move_1 : decode cX6_move 1 = .ok (.getfield 49, 3) := by decide +kernel
theorem dX6_move_4 : decode cX6_move 4 = .ok (.aload_n 0, 1) := by decide +kernel
theorem dX6_move_5 : decode cX6_move 5 = .ok (.getfield 43, 3) := by decide +kernel
theorem dX6_move_8 : decode cX6_move 8 = .ok (.idiv, 1) := by decide +kernel
theorem dX6_move_9 : decode cX6_move 9 = .ok (.istore_n 2, 1) := by decide +kernel
theorem dX6_move_10 : decode cX6_move 10 = .ok (.aload_n 0, 1) := by decide +kernel
theorem dX6_move_11 : decode cX6_move 11 = .ok (.getfield 49, 3) := by decide +kernel
theorem dX6_move_14 : decode cX6_move 14 = .ok (.aload_n 0, 1) := by decide +kernel
theorem dX6_move_15 : decode cX6_move 15 = .ok (.getfield 43, 3) := by decide +kernel
theorem dX6_move_18 : decode cX6_move 18 = .ok (.irem, 1) := by decide +kernel
theorem dX6_move_19 : decode cX6_move 19 = .ok (.istore_n 3, 1) := by decide +kernel
theorem dX6_move_20 : decode cX6_move 20 = .ok (.iload_n 1, 1) := by decide +kernel
theorem dX6_move_21 : decode cX6_move 21 = .ok (.tableswitch 116 40 46 #[43, 52, 57, 62, 73, 84, 95], 43) := by decide +kernel
theorem dX6_move_64 : decode cX6_move 64 = .ok (.aload_n 0, 1) := by decide +kernel
theorem dX6_move_65 : decode cX6_move 65 = .ok (.aload_n 0, 1) := by decide +kernel
theorem dX6_move_66 : decode cX6_move 66 = .ok (.getfield 49, 3) := by decide +kernel
theorem dX6_move_69 : decode cX6_move 69 = .ok (.invokevirtual 189, 3) := by decide +kernel
theorem dX6_move_72 : decode cX6_move 72 = .ok (.ireturn, 1) := by decide +kernel
theorem dX6_move_73 : decode cX6_move 73 = .ok (.aload_n 0, 1) := by decide +kernel
theorem dX6_move_74 : decode cX6_move 74 = .ok (.invokevirtual 192, 3) := by decide +kernel
theorem dX6_move_77 : decode cX6_move 77 = .ok (.ireturn, 1) := by decide +kernel
theorem dX6_move_78 : decode cX6_move 78 = .ok (.aload_n 0, 1) := by decide +kernel
theorem dX6_move_79 : decode cX6_move 79 = .ok (.invokevirtual 195, 3) := by decide +kernel
theorem dX6_move_82 : decode cX6_move 82 = .ok (.ireturn, 1) := by decide +kernel
theorem dX6_move_83 : decode cX6_move 83 = .ok (.aload_n 0, 1) := by decide +kernel
theorem dX6_move_84 : decode cX6_move 84 = .ok (.aload_n 0, 1) := by decide +kernel
theorem dX6_move_85 : decode cX6_move 85 = .ok (.getfield 46, 3) := by decide +kernel
theorem dX6_move_88 : decode cX6_move 88 = .ok (.iconst 1, 1) := by decide +kernel
theorem dX6_move_89 : decode cX6_move 89 = .ok (.isub, 1) := by decide +kernel
theorem dX6_move_90 : decode cX6_move 90 = .ok (.invokevirtual 189, 3) := by decide +kernel
theorem dX6_move_93 : decode cX6_move 93 = .ok (.ireturn, 1) := by decide +kernel
theorem dX6_move_94 : decode cX6_move 94 = .ok (.aload_n 0, 1) := by decide +kernel
theorem dX6_move_95 : decode cX6_move 95 = .ok (.aload_n 0, 1) := by decide +kernel
theorem dX6_move_96 : decode cX6_move 96 = .ok (.getfield 49, 3) := by decide +kernel
theorem dX6_move_99 : decode cX6_move 99 = .ok (.iconst 1, 1) := by decide +kernel
theorem dX6_move_100 : decode cX6_move 100 = .ok (.isub, 1) := by decide +kernel
theorem dX6_move_101 : decode cX6_move 101 = .ok (.invokevirtual 52, 3) := by decide +kernel
theorem dX6_move_104 : decode cX6_move 104 = .ok (.ireturn, 1) := by decide +kernel
theorem dX6_move_105 : decode cX6_move 105 = .ok (.aload_n 0, 1) := by decide +kernel
theorem dX6_move_106 : decode cX6_move 106 = .ok (.aload_n 0, 1) := by decide +kernel
theorem dX6_move_107 : decode cX6_move 107 = .ok (.getfield 49, 3) := by decide +kernel
theorem dX6_move_110 : decode cX6_move 110 = .ok (.iconst 1, 1) := by decide +kernel
theorem dX6_move_111 : decode cX6_move 111 = .ok (.iadd, 1) := by decide +kernel
theorem dX6_move_112 : decode cX6_move 112 = .ok (.invokevirtual 52, 3) := by decide +kernel
theorem dX6_move_115 : decode cX6_move 115 = .ok (.ireturn, 1) := by decide +kernel
theorem dX6_move_116 : decode cX6_move 116 = .ok (.iload_n 2, 1) := by decide +kernel
theorem dX6_move_117 : decode cX6_move 117 = .ok (.aload_n 0, 1) := by decide +kernel
theorem dX6_move_118 : decode cX6_move 118 = .ok (.getfield 40, 3) := by decide +kernel
theorem dX6_move_121 : decode cX6_move 121 = .ok (.iadd, 1) := by decide +kernel
theorem dX6_move_122 : decode cX6_move 122 = .ok (.iconst 1, 1) := by decide +kernel
theorem dX6_move_123 : decode cX6_move 123 = .ok (.isub, 1) := by decide +kernel
theorem dX6_move_124 : decode cX6_move 124 = .ok (.aload_n 0, 1) := by decide +kernel
theorem dX6_move_125 : decode cX6_move 125 = .ok (.getfield 40, 3) := by decide +kernel
theorem dX6_move_128 : decode cX6_move 128 = .ok (.irem, 1) := by decide +kernel
theorem dX6_move_129 : decode cX6_move 129 = .ok (.aload_n 0, 1) := by decide +kernel
theorem dX6_move_130 : decode cX6_move 130 = .ok (.getfield 43, 3) := by decide +kernel
theorem dX6_move_133 : decode cX6_move 133 = .ok (.imul, 1) := by decide +kernel
theorem dX6_move_134 : decode cX6_move 134 = .ok (.iload_n 3, 1) := by decide +kernel
theorem dX6_move_135 : decode cX6_move 135 = .ok (.iadd, 1) := by decide +kernel
theorem dX6_move_136 : decode cX6_move 136 = .ok (.ireturn, 1) := by decide +kernel
theorem dX6_move_137 : decode cX6_move 137 = .ok (.iload_n 2, 1) := by decide +kernel
theorem dX6_move_138 : decode cX6_move 138 = .ok (.iconst 1, 1) := by decide +kernel
theorem dX6_move_139 : decode cX6_move 139 = .ok (.iadd, 1) := by decide +kernel
theorem dX6_move_140 : decode cX6_move 140 = .ok (.aload_n 0, 1) := by decide +kernel
theorem dX6_move_141 : decode cX6_move 141 = .ok (.getfield 40, 3) := by decide +kernel
theorem dX6_move_144 : decode cX6_move 144 = .ok (.irem, 1) := by decide +kernel
theorem dX6_move_145 : decode cX6_move 145 = .ok (.aload_n 0, 1) := by decide +kernel
theorem dX6_move_146 : decode cX6_move 146 = .ok (.getfield 43, 3) := by decide +kernel
theorem dX6_move_149 : decode cX6_move 149 = .ok (.imul, 1) := by decide +kernel
theorem dX6_move_150 : decode cX6_move 150 = .ok (.iload_n 3, 1) := by decide +kernel
theorem dX6_move_151 : decode cX6_move 151 = .ok (.iadd, 1) := by decide +kernel
theorem dX6_move_152 : decode cX6_move 152 = .ok (.ireturn, 1) := by decide +kernel
set_option maxRecDepth 20000 in
theorem ggX6_key_X6_sendingKey : GoodIn wsX6_key wsX6_sendingKey := goodIn_r _ [8] (by decide +kernel) (by decide +kernel)
set_option maxRecDepth 20000 in
theorem gX6_key_X6_sendingKey : GoodIn wsX6_key (va_wsS RX6 198 yX6_sendingKey wsX6_sendingKey) := goodIn_app (goodIn_of _ (by decide +kernel)) ggX6_key_X6_sendingKey
set_option maxRecDepth 20000 in
theorem ggX6_key_X6_shortKey : GoodIn wsX6_key wsX6_shortKey := goodIn_r _ [11] (by decide +kernel) (by decide +kernel)
set_option maxRecDepth 20000 in
theorem gX6_key_X6_shortKey : GoodIn wsX6_key (va_wsS RX6 201 yX6_shortKey wsX6_shortKey) := goodIn_app (goodIn_of _ (by decide +kernel)) ggX6_key_X6_shortKey
set_option maxRecDepth 20000 in
theorem ggX6_key_X6_eraseToEnd : GoodIn wsX6_key wsX6_eraseToEnd := goodIn_r _ [15, 4, 16, 17, 18, 19, 7, 20, 21, 22, 23, 24, 25, 26, 27, 28, 29, 30, 31, 32, 33, 34, 35, 36, 37, 38, 39, 40, 41, 42, 43, 44, 45, 46, 47, 48, 49, 3, 50, 51, 52, 53, 54, 55, 56, 57, 58, 59, 60, 61, 129, 130, 131, 132, 133, 134, 135, 136, 137, 138, 139, 140, 141, 142, 143, 144, 145, 146, 147, 148, 149, 150, 151, 152, 153] (by decide +kernel) (by decide +kernel)
set_option maxRecDepth 20000 in
theorem gX6_key_X6_eraseToEnd : GoodIn wsX6_key (wsV RX6 207 RX6 yX6_eraseToEnd wsX6_eraseToEnd) := goodIn_app (goodIn_of _ (by decide +kernel)) ggX6_key_X6_eraseToEnd
set_option maxRecDepth 20000 in
theorem ggX6_key_X6_deleteSign : GoodIn wsX6_key wsX6_deleteSign := goodIn_r _ [65, 4, 66, 16, 17, 18, 19, 7, 20, 21, 22, 23, 24, 25, 26, 27, 28, 29, 30, 31, 32, 33, 34, 35, 36, 37, 38, 39, 40, 41, 42, 43, 44, 45, 46, 47, 48, 49, 3, 50, 51, 52, 53, 54, 55, 56, 57, 58, 59, 60, 61, 129, 130, 131, 132, 133, 134, 135, 136, 137, 138, 139, 140, 141, 142, 143, 144, 145, 146, 147, 148, 149, 150, 151, 152, 153] (by decide +kernel) (by decide +kernel)
set_option maxRecDepth 20000 in
theorem gX6_key_X6_deleteSign : GoodIn wsX6_key (wsV RX6 210 RX6 yX6_deleteSign wsX6_deleteSign) := goodIn_app (goodIn_of _ (by decide +kernel)) ggX6_key_X6_deleteSign
set_option maxRecDepth 20000 in
theorem ggX6_key_X6_eraseInput : GoodIn wsX6_key wsX6_eraseInput := goodIn_r _ [70, 37, 16, 4, 71, 17, 18, 19, 7, 20, 21, 22, 23, 24, 25, 26, 27, 28, 29, 30, 31, 32, 33, 34, 35, 36, 38, 39, 40, 41, 129, 130, 131, 132, 133, 134, 135, 136, 137, 138, 139, 140, 141, 142, 143, 144, 145, 146, 147, 148, 149, 150, 151, 152, 153] (by decide +kernel) (by decide +kernel)
set_option maxRecDepth 20000 in
theorem gX6_key_X6_eraseInput : GoodIn wsX6_key (wsV RX6 143 RX6 yX6_eraseInput wsX6_eraseInput) := goodIn_app (goodIn_of _ (by decide +kernel)) ggX6_key_X6_eraseInput
set_option maxRecDepth 20000 in
theorem ggX6_key_X6_move : GoodIn wsX6_key wsX6_move := goodIn_r _ [75, 4, 66, 37, 76, 77, 78, 79, 7, 80, 38, 39, 40, 41, 81, 82, 83, 84, 16, 21, 22, 23, 24, 85, 86, 87, 88, 89, 90, 91, 92, 17, 18, 19, 20, 25, 26, 27, 28, 29, 30, 31, 32, 33, 34, 35, 36, 129, 130, 131, 132, 133, 134, 135, 136, 137, 138, 139, 140, 141, 142, 143, 144, 145, 146, 147, 148, 149, 150, 151, 152, 153] (by decide +kernel) (by decide +kernel)
set_option maxRecDepth 20000 in
theorem gX6_key_X6_move : GoodIn wsX6_key (wsV RX6 213 RX6 yX6_move wsX6_move) := goodIn_app (goodIn_of _ (by decide +kernel)) ggX6_key_X6_move
set_option maxRecDepth 20000 in
theorem ggX6_key_X6_press : GoodIn wsX6_key wsX6_press := goodIn_r _ [96, 97, 5, 6, 7, 8, 98, 99, 100, 101, 71, 4, 37, 16, 102, 103, 104, 105, 106, 107, 108, 109, 110, 54, 55, 56, 57, 21, 22, 23, 24, 111, 112, 113, 114, 38, 39, 40, 41, 115, 116, 117, 118, 9, 10, 11, 119, 120, 121, 122, 123, 76, 124, 66, 125, 126, 127, 128, 46, 47, 48, 49, 3, 129, 130, 131, 132, 133, 134, 135, 136, 137, 138, 139, 140, 141, 142, 143, 144, 145, 146, 147, 148, 149, 150, 151, 152, 153] (by decide +kernel) (by decide +kernel)
set_option maxRecDepth 20000 in
theorem gX6_key_X6_press : GoodIn wsX6_key (wsV RX6 216 RX6 yX6_press wsX6_press) := goodIn_app (goodIn_of _ (by decide +kernel)) ggX6_key_X6_press
theorem dX6_key_0 : decode cX6_key 0 = .ok (.aload_n 0, 1) := by decide +kernel
theorem dX6_key_1 : decode cX6_key 1 = .ok (.iconst 0, 1) := by decide +kernel
theorem dX6_key_2 : decode cX6_key 2 = .ok (.putfield 37, 3) := by decide +kernel
theorem dX6_key_5 : decode cX6_key 5 = .ok (.iload_n 1, 1) := by decide +kernel
theorem dX6_key_6 : decode cX6_key 6 = .ok (.invokestatic 198, 3) := by decide +kernel
theorem dX6_key_9 : decode cX6_key 9 = .ok (.iconst (-1), 1) := by decide +kernel
theorem dX6_key_10 : decode cX6_key 10 = .ok (.if_icmp .ne 23, 3) := by decide +kernel
theorem dX6_key_13 : decode cX6_key 13 = .ok (.iload_n 1, 1) := by decide +kernel
theorem dX6_key_14 : decode cX6_key 14 = .ok (.invokestatic 201, 3) := by decide +kernel
theorem dX6_key_17 : decode cX6_key 17 = .ok (.iconst (-1), 1) := by decide +kernel
theorem dX6_key_18 : decode cX6_key 18 = .ok (.if_icmp .ne 15, 3) := by decide +kernel
theorem dX6_key_21 : decode cX6_key 21 = .ok (.iload_n 1, 1) := by decide +kernel
theorem dX6_key_22 : decode cX6_key 22 = .ok (.bipush 40, 2) := by decide +kernel
theorem dX6_key_24 : decode cX6_key 24 = .ok (.if_icmp .lt 13, 3) := by decide +kernel
theorem dX6_key_27 : decode cX6_key 27 = .ok (.iload_n 1, 1) := by decide +kernel
theorem dX6_key_28 : decode cX6_key 28 = .ok (.bipush 52, 2) := by decide +kernel
theorem dX6_key_30 : decode cX6_key 30 = .ok (.if_icmp .gt 7, 3) := by decide +kernel
theorem dX6_key_33 : decode cX6_key 33 = .ok (.iconst 1, 1) := by decide +kernel
theorem dX6_key_34 : decode cX6_key 34 = .ok (.goto 4, 3) := by decide +kernel
theorem dX6_key_37 : decode cX6_key 37 = .ok (.iconst 0, 1) := by decide +kernel
theorem dX6_key_38 : decode cX6_key 38 = .ok (.istore_n 2, 1) := by decide +kernel
theorem dX6_key_39 : decode cX6_key 39 = .ok (.iload_n 2, 1) := by decide +kernel
theorem dX6_key_40 : decode cX6_key 40 = .ok (.ifCond .ne 5, 3) := by decide +kernel
theorem dX6_key_43 : decode cX6_key 43 = .ok (.iconst (-1), 1) := by decide +kernel
theorem dX6_key_44 : decode cX6_key 44 = .ok (.ireturn, 1) := by decide +kernel
theorem dX6_key_45 : decode cX6_key 45 = .ok (.iload_n 1, 1) := by decide +kernel
theorem dX6_key_46 : decode cX6_key 46 = .ok (.bipush 51, 2) := by decide +kernel
theorem dX6_key_48 : decode cX6_key 48 = .ok (.if_icmp .ne 15, 3) := by decide +kernel
theorem dX6_key_51 : decode cX6_key 51 = .ok (.aload_n 0, 1) := by decide +kernel
theorem dX6_key_52 : decode cX6_key 52 = .ok (.iconst 0, 1) := by decide +kernel
theorem dX6_key_53 : decode cX6_key 53 = .ok (.putfield 204, 3) := by decide +kernel
theorem dX6_key_56 : decode cX6_key 56 = .ok (.aload_n 0, 1) := by decide +kernel
theorem dX6_key_57 : decode cX6_key 57 = .ok (.iconst 0, 1) := by decide +kernel
theorem dX6_key_58 : decode cX6_key 58 = .ok (.putfield 13, 3) := by decide +kernel
theorem dX6_key_61 : decode cX6_key 61 = .ok (.iconst 1, 1) := by decide +kernel
theorem dX6_key_62 : decode cX6_key 62 = .ok (.ireturn, 1) := by decide +kernel
theorem dX6_key_63 : decode cX6_key 63 = .ok (.aload_n 0, 1) := by decide +kernel
theorem dX6_key_64 : decode cX6_key 64 = .ok (.getfield 13, 3) := by decide +kernel
theorem dX6_key_67 : decode cX6_key 67 = .ok (.ifCond .eq 5, 3) := by decide +kernel
theorem dX6_key_70 : decode cX6_key 70 = .ok (.iconst 0, 1) := by decide +kernel
theorem dX6_key_71 : decode cX6_key 71 = .ok (.ireturn, 1) := by decide +kernel
theorem dX6_key_72 : decode cX6_key 72 = .ok (.iload_n 1, 1) := by decide +kernel
theorem dX6_key_73 : decode cX6_key 73 = .ok (.bipush 48, 2) := by decide +kernel
theorem dX6_key_75 : decode cX6_key 75 = .ok (.if_icmp .ne 8, 3) := by decide +kernel
theorem dX6_key_78 : decode cX6_key 78 = .ok (.aload_n 0, 1) := by decide +kernel
theorem dX6_key_79 : decode cX6_key 79 = .ok (.invokevirtual 207, 3) := by decide +kernel
theorem dX6_key_82 : decode cX6_key 82 = .ok (.ireturn, 1) := by decide +kernel
theorem dX6_key_83 : decode cX6_key 83 = .ok (.iload_n 1, 1) := by decide +kernel
theorem dX6_key_84 : decode cX6_key 84 = .ok (.bipush 52, 2) := by decide +kernel
theorem dX6_key_86 : decode cX6_key 86 = .ok (.if_icmp .ne 8, 3) := by decide +kernel
theorem dX6_key_89 : decode cX6_key 89 = .ok (.aload_n 0, 1) := by decide +kernel
theorem dX6_key_90 : decode cX6_key 90 = .ok (.invokevirtual 210, 3) := by decide +kernel
theorem dX6_key_93 : decode cX6_key 93 = .ok (.ireturn, 1) := by decide +kernel
theorem dX6_key_94 : decode cX6_key 94 = .ok (.iload_n 1, 1) := by decide +kernel
theorem dX6_key_95 : decode cX6_key 95 = .ok (.bipush 49, 2) := by decide +kernel
theorem dX6_key_97 : decode cX6_key 97 = .ok (.if_icmp .ne 10, 3) := by decide +kernel
theorem dX6_key_100 : decode cX6_key 100 = .ok (.aload_n 0, 1) := by decide +kernel
theorem dX6_key_101 : decode cX6_key 101 = .ok (.invokevirtual 143, 3) := by decide +kernel
theorem dX6_key_104 : decode cX6_key 104 = .ok (.goto 40, 3) := by decide +kernel
theorem dX6_key_107 : decode cX6_key 107 = .ok (.iload_n 1, 1) := by decide +kernel
theorem dX6_key_108 : decode cX6_key 108 = .ok (.bipush 50, 2) := by decide +kernel
theorem dX6_key_110 : decode cX6_key 110 = .ok (.if_icmp .ne 11, 3) := by decide +kernel
theorem dX6_key_113 : decode cX6_key 113 = .ok (.aload_n 0, 1) := by decide +kernel
theorem dX6_key_114 : decode cX6_key 114 = .ok (.iconst 1, 1) := by decide +kernel
theorem dX6_key_115 : decode cX6_key 115 = .ok (.putfield 204, 3) := by decide +kernel
theorem dX6_key_118 : decode cX6_key 118 = .ok (.goto 26, 3) := by decide +kernel
theorem dX6_key_121 : decode cX6_key 121 = .ok (.iload_n 1, 1) := by decide +kernel
theorem dX6_key_122 : decode cX6_key 122 = .ok (.bipush 40, 2) := by decide +kernel
theorem dX6_key_124 : decode cX6_key 124 = .ok (.if_icmp .lt 15, 3) := by decide +kernel
theorem dX6_key_127 : decode cX6_key 127 = .ok (.aload_n 0, 1) := by decide +kernel
theorem dX6_key_128 : decode cX6_key 128 = .ok (.aload_n 0, 1) := by decide +kernel
theorem dX6_key_129 : decode cX6_key 129 = .ok (.iload_n 1, 1) := by decide +kernel
theorem dX6_key_130 : decode cX6_key 130 = .ok (.invokevirtual 213, 3) := by decide +kernel
theorem dX6_key_133 : decode cX6_key 133 = .ok (.putfield 49, 3) := by decide +kernel
theorem dX6_key_136 : decode cX6_key 136 = .ok (.goto 8, 3) := by decide +kernel
theorem dX6_key_139 : decode cX6_key 139 = .ok (.aload_n 0, 1) := by decide +kernel
theorem dX6_key_140 : decode cX6_key 140 = .ok (.iload_n 1, 1) := by decide +kernel
theorem dX6_key_141 : decode cX6_key 141 = .ok (.invokevirtual 216, 3) := by decide +kernel
theorem dX6_key_144 : decode cX6_key 144 = .ok (.iconst 1, 1) := by decide +kernel
theorem dX6_key_145 : decode cX6_key 145 = .ok (.ireturn, 1) := by decide +kernel
set_option maxRecDepth 20000 in
theorem ggX6_press_X6_sendingKey : GoodIn wsX6_press wsX6_sendingKey := goodIn_r _ [5] (by decide +kernel) (by decide +kernel)
set_option maxRecDepth 20000 in
theorem gX6_press_X6_sendingKey : GoodIn wsX6_press (va_wsS RX6 198 yX6_sendingKey wsX6_sendingKey) := goodIn_app (goodIn_of _ (by decide +kernel)) ggX6_press_X6_sendingKey
set_option maxRecDepth 20000 in
theorem ggX6_press_X6_answer : GoodIn wsX6_press wsX6_answer := goodIn_r _ [9, 10, 11, 12, 13, 14, 15, 16, 4, 17, 18, 19, 20, 21, 22, 23, 24, 25, 26, 27, 28, 29, 30, 31, 32, 33, 34, 35, 36, 37, 38, 39, 40, 41, 42, 63, 64, 65, 66, 67, 68, 69, 70, 71, 72, 73, 74, 75, 76, 77, 78, 79, 80, 81, 82, 83, 84, 85, 86, 87] (by decide +kernel) (by decide +kernel)
set_option maxRecDepth 20000 in
theorem gX6_press_X6_answer : GoodIn wsX6_press (wsV RX6 146 RX6 yX6_answer wsX6_answer) := goodIn_app (goodIn_of _ (by decide +kernel)) ggX6_press_X6_answer
set_option maxRecDepth 20000 in
theorem ggX6_press_X6_shortKey : GoodIn wsX6_press wsX6_shortKey := goodIn_r _ [45] (by decide +kernel) (by decide +kernel)
set_option maxRecDepth 20000 in
theorem gX6_press_X6_shortKey : GoodIn wsX6_press (va_wsS RX6 201 yX6_shortKey wsX6_shortKey) := goodIn_app (goodIn_of _ (by decide +kernel)) ggX6_press_X6_shortKey
set_option maxRecDepth 20000 in
theorem ggX6_press_X6_use : GoodIn wsX6_press wsX6_use := goodIn_r _ [49, 50, 51, 52, 53, 12, 11, 13, 63, 64, 65, 66, 67, 68, 69, 70, 71, 72, 73, 74, 75, 76, 77, 78, 79, 80, 81, 82, 83, 84, 85, 86, 87] (by decide +kernel) (by decide +kernel)
set_option maxRecDepth 20000 in
theorem gX6_press_X6_use : GoodIn wsX6_press (wsV RX6 33 RX6 yX6_use wsX6_use) := goodIn_app (goodIn_of _ (by decide +kernel)) ggX6_press_X6_use
set_option maxRecDepth 20000 in
theorem ggX6_press_X6_shortly : GoodIn wsX6_press wsX6_shortly := goodIn_r _ [57, 10, 14, 15, 16, 4, 17, 18, 39, 40, 41, 42, 63, 64, 65, 66, 67, 68, 69, 70, 71, 72, 73, 74, 75, 76, 77, 78, 79, 80, 81, 82, 83, 84, 85, 86, 87] (by decide +kernel) (by decide +kernel)
set_option maxRecDepth 20000 in
theorem gX6_press_X6_shortly : GoodIn wsX6_press (wsV RX6 219 RX6 yX6_shortly wsX6_shortly) := goodIn_app (goodIn_of _ (by decide +kernel)) ggX6_press_X6_shortly
set_option maxRecDepth 20000 in
theorem ggX6_press_X6_lock : GoodIn wsX6_press wsX6_lock := goodIn_r _ [61, 62, 63, 64, 65, 66, 67, 68, 69, 70, 71, 72, 73, 74, 75, 76, 77, 78, 79, 80, 81, 82, 83, 84, 85, 86, 87] (by decide +kernel) (by decide +kernel)
set_option maxRecDepth 20000 in
theorem gX6_press_X6_lock : GoodIn wsX6_press (wsV RX6 153 RX6 yX6_lock wsX6_lock) := goodIn_app (goodIn_of _ (by decide +kernel)) ggX6_press_X6_lock
theorem dX6_press_0 : decode cX6_press 0 = .ok (.iload_n 1, 1) := by decide +kernel
theorem dX6_press_1 : decode cX6_press 1 = .ok (.invokestatic 198, 3) := by decide +kernel
theorem dX6_press_4 : decode cX6_press 4 = .ok (.iconst (-1), 1) := by decide +kernel
theorem dX6_press_5 : decode cX6_press 5 = .ok (.if_icmp .eq 23, 3) := by decide +kernel
theorem dX6_press_8 : decode cX6_press 8 = .ok (.aload_n 0, 1) := by decide +kernel
theorem dX6_press_9 : decode cX6_press 9 = .ok (.iload_n 1, 1) := by decide +kernel
theorem dX6_press_10 : decode cX6_press 10 = .ok (.invokestatic 198, 3) := by decide +kernel
theorem dX6_press_13 : decode cX6_press 13 = .ok (.putfield 17, 3) := by decide +kernel
theorem dX6_press_16 : decode cX6_press 16 = .ok (.aload_n 0, 1) := by decide +kernel
theorem dX6_press_17 : decode cX6_press 17 = .ok (.aload_n 0, 1) := by decide +kernel
theorem dX6_press_18 : decode cX6_press 18 = .ok (.getfield 17, 3) := by decide +kernel
theorem dX6_press_21 : decode cX6_press 21 = .ok (.iconst 0, 1) := by decide +kernel
theorem dX6_press_22 : decode cX6_press 22 = .ok (.invokevirtual 146, 3) := by decide +kernel
theorem dX6_press_25 : decode cX6_press 25 = .ok (.goto 29, 3) := by decide +kernel
theorem dX6_press_28 : decode cX6_press 28 = .ok (.aload_n 0, 1) := by decide +kernel
theorem dX6_press_29 : decode cX6_press 29 = .ok (.iload_n 1, 1) := by decide +kernel
theorem dX6_press_30 : decode cX6_press 30 = .ok (.invokestatic 201, 3) := by decide +kernel
theorem dX6_press_33 : decode cX6_press 33 = .ok (.putfield 17, 3) := by decide +kernel
theorem dX6_press_36 : decode cX6_press 36 = .ok (.iload_n 1, 1) := by decide +kernel
theorem dX6_press_37 : decode cX6_press 37 = .ok (.iconst 2, 1) := by decide +kernel
theorem dX6_press_38 : decode cX6_press 38 = .ok (.if_icmp .ne 8, 3) := by decide +kernel
theorem dX6_press_41 : decode cX6_press 41 = .ok (.aload_n 0, 1) := by decide +kernel
theorem dX6_press_42 : decode cX6_press 42 = .ok (.iconst 1, 1) := by decide +kernel
theorem dX6_press_43 : decode cX6_press 43 = .ok (.invokevirtual 33, 3) := by decide +kernel
theorem dX6_press_46 : decode cX6_press 46 = .ok (.aload_n 0, 1) := by decide +kernel
theorem dX6_press_47 : decode cX6_press 47 = .ok (.aload_n 0, 1) := by decide +kernel
theorem dX6_press_48 : decode cX6_press 48 = .ok (.getfield 17, 3) := by decide +kernel
theorem dX6_press_51 : decode cX6_press 51 = .ok (.invokevirtual 219, 3) := by decide +kernel
theorem dX6_press_54 : decode cX6_press 54 = .ok (.aload_n 0, 1) := by decide +kernel
theorem dX6_press_55 : decode cX6_press 55 = .ok (.invokevirtual 153, 3) := by decide +kernel
theorem dX6_press_58 : decode cX6_press 58 = .ok (.return_, 1) := by decide +kernel
set_option maxRecDepth 20000 in
theorem ggX6_makeRoom_X6_toEnd : GoodIn wsX6_makeRoom wsX6_toEnd := goodIn_r _ [7, 8, 9, 10, 11, 6, 12, 13, 14, 15, 16, 2, 17, 18, 19, 20, 21, 22, 23, 24, 25, 26, 27, 28, 29, 30, 31, 32, 33, 34, 35, 36, 37, 38, 39, 40, 41, 42, 43, 44, 45] (by decide +kernel) (by decide +kernel)
set_option maxRecDepth 20000 in
theorem gX6_makeRoom_X6_toEnd : GoodIn wsX6_makeRoom (wsV RX6 183 RX6 yX6_toEnd wsX6_toEnd) := goodIn_app (goodIn_of _ (by decide +kernel)) ggX6_makeRoom_X6_toEnd
set_option maxRecDepth 20000 in
theorem ggX6_makeRoom_X6_round : GoodIn wsX6_makeRoom wsX6_round := goodIn_r _ [20, 8, 21, 22, 23, 24, 25, 26, 27, 28, 29, 30, 31, 32, 33, 34, 35, 36, 37, 38, 39, 40, 41, 42, 43, 44, 45] (by decide +kernel) (by decide +kernel)
set_option maxRecDepth 20000 in
theorem gX6_makeRoom_X6_round : GoodIn wsX6_makeRoom (wsV RX6 52 RX6 yX6_round wsX6_round) := goodIn_app (goodIn_of _ (by decide +kernel)) ggX6_makeRoom_X6_round
theorem dX6_makeRoom_0 : decode cX6_makeRoom 0 = .ok (.aload_n 0, 1) := by decide +kernel
theorem dX6_makeRoom_1 : decode cX6_makeRoom 1 = .ok (.aload_n 0, 1) := by decide +kernel
theorem dX6_makeRoom_2 : decode cX6_makeRoom 2 = .ok (.getfield 49, 3) := by decide +kernel
theorem dX6_makeRoom_5 : decode cX6_makeRoom 5 = .ok (.invokevirtual 183, 3) := by decide +kernel
theorem dX6_makeRoom_8 : decode cX6_makeRoom 8 = .ok (.istore_n 1, 1) := by decide +kernel
theorem dX6_makeRoom_9 : decode cX6_makeRoom 9 = .ok (.iconst 0, 1) := by decide +kernel
theorem dX6_makeRoom_10 : decode cX6_makeRoom 10 = .ok (.istore_n 2, 1) := by decide +kernel
theorem dX6_makeRoom_11 : decode cX6_makeRoom 11 = .ok (.iload_n 2, 1) := by decide +kernel
theorem dX6_makeRoom_12 : decode cX6_makeRoom 12 = .ok (.iload_n 1, 1) := by decide +kernel
theorem dX6_makeRoom_13 : decode cX6_makeRoom 13 = .ok (.if_icmp .ge 27, 3) := by decide +kernel
theorem dX6_makeRoom_16 : decode cX6_makeRoom 16 = .ok (.aload_n 0, 1) := by decide +kernel
theorem dX6_makeRoom_17 : decode cX6_makeRoom 17 = .ok (.getfield 7, 3) := by decide +kernel
theorem dX6_makeRoom_20 : decode cX6_makeRoom 20 = .ok (.aload_n 0, 1) := by decide +kernel
theorem dX6_makeRoom_21 : decode cX6_makeRoom 21 = .ok (.aload_n 0, 1) := by decide +kernel
theorem dX6_makeRoom_22 : decode cX6_makeRoom 22 = .ok (.getfield 49, 3) := by decide +kernel
theorem dX6_makeRoom_25 : decode cX6_makeRoom 25 = .ok (.iload_n 2, 1) := by decide +kernel
theorem dX6_makeRoom_26 : decode cX6_makeRoom 26 = .ok (.iadd, 1) := by decide +kernel
theorem dX6_makeRoom_27 : decode cX6_makeRoom 27 = .ok (.invokevirtual 52, 3) := by decide +kernel
theorem dX6_makeRoom_30 : decode cX6_makeRoom 30 = .ok (.iaload, 1) := by decide +kernel
theorem dX6_makeRoom_31 : decode cX6_makeRoom 31 = .ok (.ifCond .eq 9, 3) := by decide +kernel
theorem dX6_makeRoom_34 : decode cX6_makeRoom 34 = .ok (.iinc 2 1, 3) := by decide +kernel
theorem dX6_makeRoom_37 : decode cX6_makeRoom 37 = .ok (.goto (-26), 3) := by decide +kernel
theorem dX6_makeRoom_40 : decode cX6_makeRoom 40 = .ok (.iload_n 2, 1) := by decide +kernel
theorem dX6_makeRoom_41 : decode cX6_makeRoom 41 = .ok (.iload_n 1, 1) := by decide +kernel
theorem dX6_makeRoom_42 : decode cX6_makeRoom 42 = .ok (.if_icmp .ne 5, 3) := by decide +kernel
theorem dX6_makeRoom_45 : decode cX6_makeRoom 45 = .ok (.iconst 0, 1) := by decide +kernel
theorem dX6_makeRoom_46 : decode cX6_makeRoom 46 = .ok (.ireturn, 1) := by decide +kernel
theorem dX6_makeRoom_47 : decode cX6_makeRoom 47 = .ok (.iload_n 2, 1) := by decide +kernel
theorem dX6_makeRoom_48 : decode cX6_makeRoom 48 = .ok (.istore_n 3, 1) := by decide +kernel
theorem dX6_makeRoom_49 : decode cX6_makeRoom 49 = .ok (.iload_n 3, 1) := by decide +kernel
theorem dX6_makeRoom_50 : decode cX6_makeRoom 50 = .ok (.ifCond .le 41, 3) := by decide +kernel
theorem dX6_makeRoom_53 : decode cX6_makeRoom 53 = .ok (.aload_n 0, 1) := by decide +kernel
theorem dX6_makeRoom_54 : decode cX6_makeRoom 54 = .ok (.getfield 7, 3) := by decide +kernel
theorem dX6_makeRoom_57 : decode cX6_makeRoom 57 = .ok (.aload_n 0, 1) := by decide +kernel
theorem dX6_makeRoom_58 : decode cX6_makeRoom 58 = .ok (.aload_n 0, 1) := by decide +kernel
theorem dX6_makeRoom_59 : decode cX6_makeRoom 59 = .ok (.getfield 49, 3) := by decide +kernel
theorem dX6_makeRoom_62 : decode cX6_makeRoom 62 = .ok (.iload_n 3, 1) := by decide +kernel
theorem dX6_makeRoom_63 : decode cX6_makeRoom 63 = .ok (.iadd, 1) := by decide +kernel
theorem dX6_makeRoom_64 : decode cX6_makeRoom 64 = .ok (.invokevirtual 52, 3) := by decide +kernel
theorem dX6_makeRoom_67 : decode cX6_makeRoom 67 = .ok (.aload_n 0, 1) := by decide +kernel
theorem dX6_makeRoom_68 : decode cX6_makeRoom 68 = .ok (.getfield 7, 3) := by decide +kernel
theorem dX6_makeRoom_71 : decode cX6_makeRoom 71 = .ok (.aload_n 0, 1) := by decide +kernel
theorem dX6_makeRoom_72 : decode cX6_makeRoom 72 = .ok (.aload_n 0, 1) := by decide +kernel
theorem dX6_makeRoom_73 : decode cX6_makeRoom 73 = .ok (.getfield 49, 3) := by decide +kernel
theorem dX6_makeRoom_76 : decode cX6_makeRoom 76 = .ok (.iload_n 3, 1) := by decide +kernel
theorem dX6_makeRoom_77 : decode cX6_makeRoom 77 = .ok (.iadd, 1) := by decide +kernel
theorem dX6_makeRoom_78 : decode cX6_makeRoom 78 = .ok (.iconst 1, 1) := by decide +kernel
theorem dX6_makeRoom_79 : decode cX6_makeRoom 79 = .ok (.isub, 1) := by decide +kernel
theorem dX6_makeRoom_80 : decode cX6_makeRoom 80 = .ok (.invokevirtual 52, 3) := by decide +kernel
theorem dX6_makeRoom_83 : decode cX6_makeRoom 83 = .ok (.iaload, 1) := by decide +kernel
theorem dX6_makeRoom_84 : decode cX6_makeRoom 84 = .ok (.iastore, 1) := by decide +kernel
theorem dX6_makeRoom_85 : decode cX6_makeRoom 85 = .ok (.iinc 3 (-1), 3) := by decide +kernel
theorem dX6_makeRoom_88 : decode cX6_makeRoom 88 = .ok (.goto (-39), 3) := by decide +kernel
theorem dX6_makeRoom_91 : decode cX6_makeRoom 91 = .ok (.iconst 1, 1) := by decide +kernel
theorem dX6_makeRoom_92 : decode cX6_makeRoom 92 = .ok (.ireturn, 1) := by decide +kernel
set_option maxRecDepth 20000 in
theorem ggX6_type_X6_mayBeTyped : GoodIn wsX6_type wsX6_mayBeTyped := goodIn_r _ [10, 11, 12, 13, 9, 14, 5, 15, 16, 17, 18, 19, 20, 21, 22, 23, 24, 25, 26, 27, 28, 29, 30, 31, 64, 65, 66, 67, 68, 69, 70, 71, 72, 73, 74, 75, 76, 77, 78, 79, 80, 81, 82, 83, 84, 85, 86, 87, 88] (by decide +kernel) (by decide +kernel)
set_option maxRecDepth 20000 in
theorem gX6_type_X6_mayBeTyped : GoodIn wsX6_type (wsV RX6 107 RX6 yX6_mayBeTyped wsX6_mayBeTyped) := goodIn_app (goodIn_of _ (by decide +kernel)) ggX6_type_X6_mayBeTyped
set_option maxRecDepth 20000 in
theorem ggX6_type_X6_attributeOf : GoodIn wsX6_type wsX6_attributeOf := goodIn_r _ [22, 5, 23, 24, 25, 9, 26, 27, 28, 29, 30, 31, 11, 12, 13, 14, 64, 65, 66, 67, 68, 69, 70, 71, 72, 73, 74, 75, 76, 77, 78, 79, 80, 81, 82, 83, 84, 85, 86, 87, 88] (by decide +kernel) (by decide +kernel)
set_option maxRecDepth 20000 in
theorem gX6_type_X6_attributeOf : GoodIn wsX6_type (wsV RX6 63 RX6 yX6_attributeOf wsX6_attributeOf) := goodIn_app (goodIn_of _ (by decide +kernel)) ggX6_type_X6_attributeOf
set_option maxRecDepth 20000 in
theorem ggX6_type_X6_refuse : GoodIn wsX6_type wsX6_refuse := goodIn_r _ [35, 36, 37, 38, 9, 39, 2, 64, 65, 66, 67, 68, 69, 70, 71, 72, 73, 74, 75, 76, 77, 78, 79, 80, 81, 82, 83, 84, 85, 86, 87, 88] (by decide +kernel) (by decide +kernel)
set_option maxRecDepth 20000 in
theorem gX6_type_X6_refuse : GoodIn wsX6_type (wsV RX6 180 RX6 yX6_refuse wsX6_refuse) := goodIn_app (goodIn_of _ (by decide +kernel)) ggX6_type_X6_refuse
set_option maxRecDepth 20000 in
theorem ggX6_type_X6_makeRoom : GoodIn wsX6_type wsX6_makeRoom := goodIn_r _ [43, 3, 5, 44, 45, 46, 9, 47, 27, 48, 49, 50, 51, 11, 12, 13, 14, 28, 29, 30, 31, 64, 65, 66, 67, 68, 69, 70, 71, 72, 73, 74, 75, 76, 77, 78, 79, 80, 81, 82, 83, 84, 85, 86, 87, 88] (by decide +kernel) (by decide +kernel)
set_option maxRecDepth 20000 in
theorem gX6_type_X6_makeRoom : GoodIn wsX6_type (wsV RX6 222 RX6 yX6_makeRoom wsX6_makeRoom) := goodIn_app (goodIn_of _ (by decide +kernel)) ggX6_type_X6_makeRoom
set_option maxRecDepth 20000 in
theorem ggX6_type_X6_modify : GoodIn wsX6_type wsX6_modify := goodIn_r _ [55, 5, 23, 24, 25, 9, 26, 27, 28, 29, 30, 31, 11, 12, 13, 14, 64, 65, 66, 67, 68, 69, 70, 71, 72, 73, 74, 75, 76, 77, 78, 79, 80, 81, 82, 83, 84, 85, 86, 87, 88] (by decide +kernel) (by decide +kernel)
set_option maxRecDepth 20000 in
theorem gX6_type_X6_modify : GoodIn wsX6_type (wsV RX6 186 RX6 yX6_modify wsX6_modify) := goodIn_app (goodIn_of _ (by decide +kernel)) ggX6_type_X6_modify
set_option maxRecDepth 20000 in
theorem ggX6_type_X6_round : GoodIn wsX6_type wsX6_round := goodIn_r _ [31, 27, 64, 65, 66, 67, 68, 69, 70, 71, 72, 73, 74, 75, 76, 77, 78, 79, 80, 81, 82, 83, 84, 85, 86, 87, 88] (by decide +kernel) (by decide +kernel)
set_option maxRecDepth 20000 in
theorem gX6_type_X6_round : GoodIn wsX6_type (wsV RX6 52 RX6 yX6_round wsX6_round) := goodIn_app (goodIn_of _ (by decide +kernel)) ggX6_type_X6_round
set_option maxRecDepth 20000 in
theorem ggX6_type_X6_isAttribute : GoodIn wsX6_type wsX6_isAttribute := goodIn_r _ [14, 5, 64, 65, 66, 67, 68, 69, 70, 71, 72, 73, 74, 75, 76, 77, 78, 79, 80, 81, 82, 83, 84, 85, 86, 87, 88] (by decide +kernel) (by decide +kernel)
set_option maxRecDepth 20000 in
theorem gX6_type_X6_isAttribute : GoodIn wsX6_type (wsV RX6 56 RX6 yX6_isAttribute wsX6_isAttribute) := goodIn_app (goodIn_of _ (by decide +kernel)) ggX6_type_X6_isAttribute
set_option maxRecDepth 20000 in
theorem ggX6_type_X6_tab : GoodIn wsX6_type wsX6_tab := goodIn_r _ [59, 27, 28, 29, 30, 9, 31, 60, 61, 62, 63, 5, 11, 12, 13, 14, 64, 65, 66, 67, 68, 69, 70, 71, 72, 73, 74, 75, 76, 77, 78, 79, 80, 81, 82, 83, 84, 85, 86, 87, 88] (by decide +kernel) (by decide +kernel)
set_option maxRecDepth 20000 in
theorem gX6_type_X6_tab : GoodIn wsX6_type (wsV RX6 189 RX6 yX6_tab wsX6_tab) := goodIn_app (goodIn_of _ (by decide +kernel)) ggX6_type_X6_tab
theorem dX6_type_0 : decode cX6_type 0 = .ok (.aload_n 0, 1) := by decide +kernel
theorem dX6_type_1 : decode cX6_type 1 = .ok (.iconst 0, 1) := by decide +kernel
theorem dX6_type_2 : decode cX6_type 2 = .ok (.putfield 37, 3) := by decide +kernel
theorem dX6_type_5 : decode cX6_type 5 = .ok (.iload_n 1, 1) := by decide +kernel
theorem dX6_type_6 : decode cX6_type 6 = .ok (.bipush 64, 2) := by decide +kernel
theorem dX6_type_8 : decode cX6_type 8 = .ok (.if_icmp .lt 10, 3) := by decide +kernel
theorem dX6_type_11 : decode cX6_type 11 = .ok (.iload_n 1, 1) := by decide +kernel
theorem dX6_type_12 : decode cX6_type 12 = .ok (.sipush 254, 3) := by decide +kernel
theorem dX6_type_15 : decode cX6_type 15 = .ok (.if_icmp .le 5, 3) := by decide +kernel
theorem dX6_type_18 : decode cX6_type 18 = .ok (.iconst (-1), 1) := by decide +kernel
theorem dX6_type_19 : decode cX6_type 19 = .ok (.ireturn, 1) := by decide +kernel
theorem dX6_type_20 : decode cX6_type 20 = .ok (.aload_n 0, 1) := by decide +kernel
theorem dX6_type_21 : decode cX6_type 21 = .ok (.getfield 13, 3) := by decide +kernel
theorem dX6_type_24 : decode cX6_type 24 = .ok (.ifCond .eq 5, 3) := by decide +kernel
theorem dX6_type_27 : decode cX6_type 27 = .ok (.iconst 0, 1) := by decide +kernel
theorem dX6_type_28 : decode cX6_type 28 = .ok (.ireturn, 1) := by decide +kernel
theorem dX6_type_29 : decode cX6_type 29 = .ok (.iload_n 1, 1) := by decide +kernel
theorem dX6_type_30 : decode cX6_type 30 = .ok (.sipush 240, 3) := by decide +kernel
theorem dX6_type_33 : decode cX6_type 33 = .ok (.if_icmp .lt 10, 3) := by decide +kernel
theorem dX6_type_36 : decode cX6_type 36 = .ok (.iload_n 1, 1) := by decide +kernel
theorem dX6_type_37 : decode cX6_type 37 = .ok (.sipush 249, 3) := by decide +kernel
theorem dX6_type_40 : decode cX6_type 40 = .ok (.if_icmp .le 15, 3) := by decide +kernel
theorem dX6_type_43 : decode cX6_type 43 = .ok (.iload_n 1, 1) := by decide +kernel
theorem dX6_type_44 : decode cX6_type 44 = .ok (.bipush 75, 2) := by decide +kernel
theorem dX6_type_46 : decode cX6_type 46 = .ok (.if_icmp .eq 9, 3) := by decide +kernel
theorem dX6_type_49 : decode cX6_type 49 = .ok (.iload_n 1, 1) := by decide +kernel
theorem dX6_type_50 : decode cX6_type 50 = .ok (.bipush 96, 2) := by decide +kernel
theorem dX6_type_52 : decode cX6_type 52 = .ok (.if_icmp .ne 7, 3) := by decide +kernel
theorem dX6_type_55 : decode cX6_type 55 = .ok (.iconst 1, 1) := by decide +kernel
theorem dX6_type_56 : decode cX6_type 56 = .ok (.goto 4, 3) := by decide +kernel
theorem dX6_type_59 : decode cX6_type 59 = .ok (.iconst 0, 1) := by decide +kernel
theorem dX6_type_60 : decode cX6_type 60 = .ok (.istore_n 2, 1) := by decide +kernel
theorem dX6_type_61 : decode cX6_type 61 = .ok (.aload_n 0, 1) := by decide +kernel
theorem dX6_type_62 : decode cX6_type 62 = .ok (.aload_n 0, 1) := by decide +kernel
theorem dX6_type_63 : decode cX6_type 63 = .ok (.getfield 49, 3) := by decide +kernel
theorem dX6_type_66 : decode cX6_type 66 = .ok (.invokevirtual 107, 3) := by decide +kernel
theorem dX6_type_69 : decode cX6_type 69 = .ok (.ifCond .eq 21, 3) := by decide +kernel
theorem dX6_type_72 : decode cX6_type 72 = .ok (.aload_n 0, 1) := by decide +kernel
theorem dX6_type_73 : decode cX6_type 73 = .ok (.aload_n 0, 1) := by decide +kernel
theorem dX6_type_74 : decode cX6_type 74 = .ok (.getfield 49, 3) := by decide +kernel
theorem dX6_type_77 : decode cX6_type 77 = .ok (.invokevirtual 63, 3) := by decide +kernel
theorem dX6_type_80 : decode cX6_type 80 = .ok (.bipush 16, 2) := by decide +kernel
theorem dX6_type_82 : decode cX6_type 82 = .ok (.iand, 1) := by decide +kernel
theorem dX6_type_83 : decode cX6_type 83 = .ok (.ifCond .eq 12, 3) := by decide +kernel
theorem dX6_type_86 : decode cX6_type 86 = .ok (.iload_n 2, 1) := by decide +kernel
theorem dX6_type_87 : decode cX6_type 87 = .ok (.ifCond .ne 8, 3) := by decide +kernel
theorem dX6_type_90 : decode cX6_type 90 = .ok (.aload_n 0, 1) := by decide +kernel
theorem dX6_type_91 : decode cX6_type 91 = .ok (.invokevirtual 180, 3) := by decide +kernel
theorem dX6_type_94 : decode cX6_type 94 = .ok (.ireturn, 1) := by decide +kernel
theorem dX6_type_95 : decode cX6_type 95 = .ok (.aload_n 0, 1) := by decide +kernel
theorem dX6_type_96 : decode cX6_type 96 = .ok (.getfield 204, 3) := by decide +kernel
theorem dX6_type_99 : decode cX6_type 99 = .ok (.ifCond .eq 15, 3) := by decide +kernel
theorem dX6_type_102 : decode cX6_type 102 = .ok (.aload_n 0, 1) := by decide +kernel
theorem dX6_type_103 : decode cX6_type 103 = .ok (.invokevirtual 222, 3) := by decide +kernel
theorem dX6_type_106 : decode cX6_type 106 = .ok (.ifCond .ne 8, 3) := by decide +kernel
theorem dX6_type_109 : decode cX6_type 109 = .ok (.aload_n 0, 1) := by decide +kernel
theorem dX6_type_110 : decode cX6_type 110 = .ok (.invokevirtual 180, 3) := by decide +kernel
theorem dX6_type_113 : decode cX6_type 113 = .ok (.ireturn, 1) := by decide +kernel
theorem dX6_type_114 : decode cX6_type 114 = .ok (.aload_n 0, 1) := by decide +kernel
theorem dX6_type_115 : decode cX6_type 115 = .ok (.getfield 7, 3) := by decide +kernel
theorem dX6_type_118 : decode cX6_type 118 = .ok (.aload_n 0, 1) := by decide +kernel
theorem dX6_type_119 : decode cX6_type 119 = .ok (.getfield 49, 3) := by decide +kernel
theorem dX6_type_122 : decode cX6_type 122 = .ok (.iload_n 1, 1) := by decide +kernel
theorem dX6_type_123 : decode cX6_type 123 = .ok (.iastore, 1) := by decide +kernel
theorem dX6_type_124 : decode cX6_type 124 = .ok (.aload_n 0, 1) := by decide +kernel
theorem dX6_type_125 : decode cX6_type 125 = .ok (.aload_n 0, 1) := by decide +kernel
theorem dX6_type_126 : decode cX6_type 126 = .ok (.getfield 49, 3) := by decide +kernel
theorem dX6_type_129 : decode cX6_type 129 = .ok (.invokevirtual 186, 3) := by decide +kernel
theorem dX6_type_132 : decode cX6_type 132 = .ok (.aload_n 0, 1) := by decide +kernel
theorem dX6_type_133 : decode cX6_type 133 = .ok (.aload_n 0, 1) := by decide +kernel
theorem dX6_type_134 : decode cX6_type 134 = .ok (.aload_n 0, 1) := by decide +kernel
theorem dX6_type_135 : decode cX6_type 135 = .ok (.getfield 49, 3) := by decide +kernel
theorem dX6_type_138 : decode cX6_type 138 = .ok (.iconst 1, 1) := by decide +kernel
theorem dX6_type_139 : decode cX6_type 139 = .ok (.iadd, 1) := by decide +kernel
theorem dX6_type_140 : decode cX6_type 140 = .ok (.invokevirtual 52, 3) := by decide +kernel
theorem dX6_type_143 : decode cX6_type 143 = .ok (.putfield 49, 3) := by decide +kernel
theorem dX6_type_146 : decode cX6_type 146 = .ok (.aload_n 0, 1) := by decide +kernel
theorem dX6_type_147 : decode cX6_type 147 = .ok (.aload_n 0, 1) := by decide +kernel
theorem dX6_type_148 : decode cX6_type 148 = .ok (.getfield 49, 3) := by decide +kernel
theorem dX6_type_151 : decode cX6_type 151 = .ok (.invokevirtual 56, 3) := by decide +kernel
theorem dX6_type_154 : decode cX6_type 154 = .ok (.ifCond .ne 5, 3) := by decide +kernel
theorem dX6_type_157 : decode cX6_type 157 = .ok (.iconst 1, 1) := by decide +kernel
theorem dX6_type_158 : decode cX6_type 158 = .ok (.ireturn, 1) := by decide +kernel
theorem dX6_type_159 : decode cX6_type 159 = .ok (.aload_n 0, 1) := by decide +kernel
theorem dX6_type_160 : decode cX6_type 160 = .ok (.getfield 7, 3) := by decide +kernel
theorem dX6_type_163 : decode cX6_type 163 = .ok (.aload_n 0, 1) := by decide +kernel
theorem dX6_type_164 : decode cX6_type 164 = .ok (.getfield 49, 3) := by decide +kernel
theorem dX6_type_167 : decode cX6_type 167 = .ok (.iaload, 1) := by decide +kernel
theorem dX6_type_168 : decode cX6_type 168 = .ok (.bipush 32, 2) := by decide +kernel
theorem dX6_type_170 : decode cX6_type 170 = .ok (.iand, 1) := by decide +kernel
theorem dX6_type_171 : decode cX6_type 171 = .ok (.ifCond .eq 22, 3) := by decide +kernel
theorem dX6_type_174 : decode cX6_type 174 = .ok (.aload_n 0, 1) := by decide +kernel
theorem dX6_type_175 : decode cX6_type 175 = .ok (.getfield 7, 3) := by decide +kernel
theorem dX6_type_178 : decode cX6_type 178 = .ok (.aload_n 0, 1) := by decide +kernel
theorem dX6_type_179 : decode cX6_type 179 = .ok (.getfield 49, 3) := by decide +kernel
theorem dX6_type_182 : decode cX6_type 182 = .ok (.iaload, 1) := by decide +kernel
theorem dX6_type_183 : decode cX6_type 183 = .ok (.bipush 16, 2) := by decide +kernel
theorem dX6_type_185 : decode cX6_type 185 = .ok (.iand, 1) := by decide +kernel
theorem dX6_type_186 : decode cX6_type 186 = .ok (.ifCond .eq 7, 3) := by decide +kernel
theorem dX6_type_189 : decode cX6_type 189 = .ok (.iconst 1, 1) := by decide +kernel
theorem dX6_type_190 : decode cX6_type 190 = .ok (.goto 4, 3) := by decide +kernel
theorem dX6_type_193 : decode cX6_type 193 = .ok (.iconst 0, 1) := by decide +kernel
theorem dX6_type_194 : decode cX6_type 194 = .ok (.istore_n 3, 1) := by decide +kernel
theorem dX6_type_195 : decode cX6_type 195 = .ok (.aload_n 0, 1) := by decide +kernel
theorem dX6_type_196 : decode cX6_type 196 = .ok (.iload_n 3, 1) := by decide +kernel
theorem dX6_type_197 : decode cX6_type 197 = .ok (.ifCond .eq 14, 3) := by decide +kernel
theorem dX6_type_200 : decode cX6_type 200 = .ok (.aload_n 0, 1) := by decide +kernel
theorem dX6_type_201 : decode cX6_type 201 = .ok (.aload_n 0, 1) := by decide +kernel
theorem dX6_type_202 : decode cX6_type 202 = .ok (.getfield 49, 3) := by decide +kernel
theorem dX6_type_205 : decode cX6_type 205 = .ok (.invokevirtual 189, 3) := by decide +kernel
theorem dX6_type_208 : decode cX6_type 208 = .ok (.goto 13, 3) := by decide +kernel
theorem dX6_type_211 : decode cX6_type 211 = .ok (.aload_n 0, 1) := by decide +kernel
theorem dX6_type_212 : decode cX6_type 212 = .ok (.aload_n 0, 1) := by decide +kernel
theorem dX6_type_213 : decode cX6_type 213 = .ok (.getfield 49, 3) := by decide +kernel
theorem dX6_type_216 : decode cX6_type 216 = .ok (.iconst 1, 1) := by decide +kernel
theorem dX6_type_217 : decode cX6_type 217 = .ok (.iadd, 1) := by decide +kernel
theorem dX6_type_218 : decode cX6_type 218 = .ok (.invokevirtual 52, 3) := by decide +kernel
theorem dX6_type_221 : decode cX6_type 221 = .ok (.putfield 49, 3) := by decide +kernel
theorem dX6_type_224 : decode cX6_type 224 = .ok (.iconst 1, 1) := by decide +kernel
theorem dX6_type_225 : decode cX6_type 225 = .ok (.ireturn, 1) := by decide +kernel
theorem dX6_isCell_0 : decode cX6_isCell 0 = .ok (.iload_n 1, 1) := by decide +kernel
theorem dX6_isCell_1 : decode cX6_isCell 1 = .ok (.ifCond .lt 27, 3) := by decide +kernel
theorem dX6_isCell_4 : decode cX6_isCell 4 = .ok (.iload_n 1, 1) := by decide +kernel
theorem dX6_isCell_5 : decode cX6_isCell 5 = .ok (.aload_n 0, 1) := by decide +kernel
theorem dX6_isCell_6 : decode cX6_isCell 6 = .ok (.getfield 40, 3) := by decide +kernel
theorem dX6_isCell_9 : decode cX6_isCell 9 = .ok (.if_icmp .ge 19, 3) := by decide +kernel
theorem dX6_isCell_12 : decode cX6_isCell 12 = .ok (.iload_n 2, 1) := by decide +kernel
theorem dX6_isCell_13 : decode cX6_isCell 13 = .ok (.ifCond .lt 15, 3) := by decide +kernel
theorem dX6_isCell_16 : decode cX6_isCell 16 = .ok (.iload_n 2, 1) := by decide +kernel
theorem dX6_isCell_17 : decode cX6_isCell 17 = .ok (.aload_n 0, 1) := by decide +kernel
theorem dX6_isCell_18 : decode cX6_isCell 18 = .ok (.getfield 43, 3) := by decide +kernel
theorem dX6_isCell_21 : decode cX6_isCell 21 = .ok (.if_icmp .ge 7, 3) := by decide +kernel
theorem dX6_isCell_24 : decode cX6_isCell 24 = .ok (.iconst 1, 1) := by decide +kernel
theorem dX6_isCell_25 : decode cX6_isCell 25 = .ok (.goto 4, 3) := by decide +kernel
theorem dX6_isCell_28 : decode cX6_isCell 28 = .ok (.iconst 0, 1) := by decide +kernel
theorem dX6_isCell_29 : decode cX6_isCell 29 = .ok (.ireturn, 1) := by decide +kernel
set_option maxRecDepth 20000 in
theorem ggX6_sign_X6_isCell : GoodIn wsX6_sign wsX6_isCell := goodIn_r _ [8, 9, 3, 10, 11, 12, 13, 14, 15, 16, 17, 18, 19, 20, 21, 22, 23, 24, 25, 26, 27, 28, 29, 30, 31, 32, 33, 34] (by decide +kernel) (by decide +kernel)
set_option maxRecDepth 20000 in
theorem gX6_sign_X6_isCell : GoodIn wsX6_sign (wsV RX6 226 RX6 yX6_isCell wsX6_isCell) := goodIn_app (goodIn_of _ (by decide +kernel)) ggX6_sign_X6_isCell
theorem dX6_sign_0 : decode cX6_sign 0 = .ok (.aload_n 0, 1) := by decide +kernel
theorem dX6_sign_1 : decode cX6_sign 1 = .ok (.iconst 0, 1) := by decide +kernel
theorem dX6_sign_2 : decode cX6_sign 2 = .ok (.putfield 37, 3) := by decide +kernel
theorem dX6_sign_5 : decode cX6_sign 5 = .ok (.aload_n 0, 1) := by decide +kernel
theorem dX6_sign_6 : decode cX6_sign 6 = .ok (.iload_n 1, 1) := by decide +kernel
theorem dX6_sign_7 : decode cX6_sign 7 = .ok (.iload_n 2, 1) := by decide +kernel
theorem dX6_sign_8 : decode cX6_sign 8 = .ok (.invokevirtual 226, 3) := by decide +kernel
theorem dX6_sign_11 : decode cX6_sign 11 = .ok (.ifCond .ne 6, 3) := by decide +kernel
theorem dX6_sign_14 : decode cX6_sign 14 = .ok (.bipush (-2), 2) := by decide +kernel
theorem dX6_sign_16 : decode cX6_sign 16 = .ok (.ireturn, 1) := by decide +kernel
theorem dX6_sign_17 : decode cX6_sign 17 = .ok (.aload_n 0, 1) := by decide +kernel
theorem dX6_sign_18 : decode cX6_sign 18 = .ok (.getfield 7, 3) := by decide +kernel
theorem dX6_sign_21 : decode cX6_sign 21 = .ok (.iload_n 1, 1) := by decide +kernel
theorem dX6_sign_22 : decode cX6_sign 22 = .ok (.aload_n 0, 1) := by decide +kernel
theorem dX6_sign_23 : decode cX6_sign 23 = .ok (.getfield 43, 3) := by decide +kernel
theorem dX6_sign_26 : decode cX6_sign 26 = .ok (.imul, 1) := by decide +kernel
theorem dX6_sign_27 : decode cX6_sign 27 = .ok (.iload_n 2, 1) := by decide +kernel
theorem dX6_sign_28 : decode cX6_sign 28 = .ok (.iadd, 1) := by decide +kernel
theorem dX6_sign_29 : decode cX6_sign 29 = .ok (.iaload, 1) := by decide +kernel
theorem dX6_sign_30 : decode cX6_sign 30 = .ok (.istore_n 3, 1) := by decide +kernel
theorem dX6_sign_31 : decode cX6_sign 31 = .ok (.iload_n 3, 1) := by decide +kernel
theorem dX6_sign_32 : decode cX6_sign 32 = .ok (.sipush 256, 3) := by decide +kernel
theorem dX6_sign_35 : decode cX6_sign 35 = .ok (.if_icmp .lt 7, 3) := by decide +kernel
theorem dX6_sign_38 : decode cX6_sign 38 = .ok (.iconst (-1), 1) := by decide +kernel
theorem dX6_sign_39 : decode cX6_sign 39 = .ok (.goto 4, 3) := by decide +kernel
theorem dX6_sign_42 : decode cX6_sign 42 = .ok (.iload_n 3, 1) := by decide +kernel
theorem dX6_sign_43 : decode cX6_sign 43 = .ok (.ireturn, 1) := by decide +kernel
set_option maxRecDepth 20000 in
theorem ggX6_attribute_X6_isCell : GoodIn wsX6_attribute wsX6_isCell := goodIn_r _ [8, 9, 2, 27, 28, 29, 30, 31, 32, 33, 34, 35, 36, 37, 38, 39, 40, 41, 42, 43, 44, 45, 46, 47, 48, 49, 50, 51] (by decide +kernel) (by decide +kernel)
set_option maxRecDepth 20000 in
theorem gX6_attribute_X6_isCell : GoodIn wsX6_attribute (wsV RX6 226 RX6 yX6_isCell wsX6_isCell) := goodIn_app (goodIn_of _ (by decide +kernel)) ggX6_attribute_X6_isCell
set_option maxRecDepth 20000 in
theorem ggX6_attribute_X6_isAttribute : GoodIn wsX6_attribute wsX6_isAttribute := goodIn_r _ [13, 3, 27, 28, 29, 30, 31, 32, 33, 34, 35, 36, 37, 38, 39, 40, 41, 42, 43, 44, 45, 46, 47, 48, 49, 50, 51] (by decide +kernel) (by decide +kernel)
set_option maxRecDepth 20000 in
theorem gX6_attribute_X6_isAttribute : GoodIn wsX6_attribute (wsV RX6 56 RX6 yX6_isAttribute wsX6_isAttribute) := goodIn_app (goodIn_of _ (by decide +kernel)) ggX6_attribute_X6_isAttribute
set_option maxRecDepth 20000 in
theorem ggX6_attribute_X6_home : GoodIn wsX6_attribute wsX6_home := goodIn_r _ [17, 18, 19, 20, 21, 7, 22, 10, 11, 12, 13, 3, 27, 28, 29, 30, 31, 32, 33, 34, 35, 36, 37, 38, 39, 40, 41, 42, 43, 44, 45, 46, 47, 48, 49, 50, 51] (by decide +kernel) (by decide +kernel)
set_option maxRecDepth 20000 in
theorem gX6_attribute_X6_home : GoodIn wsX6_attribute (wsV RX6 60 RX6 yX6_home wsX6_home) := goodIn_app (goodIn_of _ (by decide +kernel)) ggX6_attribute_X6_home
set_option maxRecDepth 20000 in
theorem ggX6_attribute_X6_attributeOf : GoodIn wsX6_attribute wsX6_attributeOf := goodIn_r _ [26, 3, 14, 15, 16, 7, 17, 18, 19, 20, 21, 22, 10, 11, 12, 13, 27, 28, 29, 30, 31, 32, 33, 34, 35, 36, 37, 38, 39, 40, 41, 42, 43, 44, 45, 46, 47, 48, 49, 50, 51] (by decide +kernel) (by decide +kernel)
set_option maxRecDepth 20000 in
theorem gX6_attribute_X6_attributeOf : GoodIn wsX6_attribute (wsV RX6 63 RX6 yX6_attributeOf wsX6_attributeOf) := goodIn_app (goodIn_of _ (by decide +kernel)) ggX6_attribute_X6_attributeOf
theorem dX6_attribute_0 : decode cX6_attribute 0 = .ok (.aload_n 0, 1) := by decide +kernel
theorem dX6_attribute_1 : decode cX6_attribute 1 = .ok (.iconst 0, 1) := by decide +kernel
theorem dX6_attribute_2 : decode cX6_attribute 2 = .ok (.putfield 37, 3) := by decide +kernel
theorem dX6_attribute_5 : decode cX6_attribute 5 = .ok (.aload_n 0, 1) := by decide +kernel
theorem dX6_attribute_6 : decode cX6_attribute 6 = .ok (.iload_n 1, 1) := by decide +kernel
theorem dX6_attribute_7 : decode cX6_attribute 7 = .ok (.iload_n 2, 1) := by decide +kernel
theorem dX6_attribute_8 : decode cX6_attribute 8 = .ok (.invokevirtual 226, 3) := by decide +kernel
theorem dX6_attribute_11 : decode cX6_attribute 11 = .ok (.ifCond .ne 6, 3) := by decide +kernel
theorem dX6_attribute_14 : decode cX6_attribute 14 = .ok (.bipush (-2), 2) := by decide +kernel
theorem dX6_attribute_16 : decode cX6_attribute 16 = .ok (.ireturn, 1) := by decide +kernel
theorem dX6_attribute_17 : decode cX6_attribute 17 = .ok (.iload_n 1, 1) := by decide +kernel
theorem dX6_attribute_18 : decode cX6_attribute 18 = .ok (.aload_n 0, 1) := by decide +kernel
theorem dX6_attribute_19 : decode cX6_attribute 19 = .ok (.getfield 43, 3) := by decide +kernel
theorem dX6_attribute_22 : decode cX6_attribute 22 = .ok (.imul, 1) := by decide +kernel
theorem dX6_attribute_23 : decode cX6_attribute 23 = .ok (.iload_n 2, 1) := by decide +kernel
theorem dX6_attribute_24 : decode cX6_attribute 24 = .ok (.iadd, 1) := by decide +kernel
theorem dX6_attribute_25 : decode cX6_attribute 25 = .ok (.istore_n 3, 1) := by decide +kernel
theorem dX6_attribute_26 : decode cX6_attribute 26 = .ok (.aload_n 0, 1) := by decide +kernel
theorem dX6_attribute_27 : decode cX6_attribute 27 = .ok (.iload_n 3, 1) := by decide +kernel
theorem dX6_attribute_28 : decode cX6_attribute 28 = .ok (.invokevirtual 56, 3) := by decide +kernel
theorem dX6_attribute_31 : decode cX6_attribute 31 = .ok (.ifCond .eq 10, 3) := by decide +kernel
theorem dX6_attribute_34 : decode cX6_attribute 34 = .ok (.aload_n 0, 1) := by decide +kernel
theorem dX6_attribute_35 : decode cX6_attribute 35 = .ok (.getfield 7, 3) := by decide +kernel
theorem dX6_attribute_38 : decode cX6_attribute 38 = .ok (.iload_n 3, 1) := by decide +kernel
theorem dX6_attribute_39 : decode cX6_attribute 39 = .ok (.iaload, 1) := by decide +kernel
theorem dX6_attribute_40 : decode cX6_attribute 40 = .ok (.ireturn, 1) := by decide +kernel
theorem dX6_attribute_41 : decode cX6_attribute 41 = .ok (.aload_n 0, 1) := by decide +kernel
theorem dX6_attribute_42 : decode cX6_attribute 42 = .ok (.iload_n 3, 1) := by decide +kernel
theorem dX6_attribute_43 : decode cX6_attribute 43 = .ok (.invokevirtual 60, 3) := by decide +kernel
theorem dX6_attribute_46 : decode cX6_attribute 46 = .ok (.iconst (-1), 1) := by decide +kernel
theorem dX6_attribute_47 : decode cX6_attribute 47 = .ok (.if_icmp .ne 7, 3) := by decide +kernel
theorem dX6_attribute_50 : decode cX6_attribute 50 = .ok (.iconst (-1), 1) := by decide +kernel
theorem dX6_attribute_51 : decode cX6_attribute 51 = .ok (.goto 8, 3) := by decide +kernel
theorem dX6_attribute_54 : decode cX6_attribute 54 = .ok (.aload_n 0, 1) := by decide +kernel
theorem dX6_attribute_55 : decode cX6_attribute 55 = .ok (.iload_n 3, 1) := by decide +kernel
theorem dX6_attribute_56 : decode cX6_attribute 56 = .ok (.invokevirtual 63, 3) := by decide +kernel
theorem dX6_attribute_59 : decode cX6_attribute 59 = .ok (.ireturn, 1) := by decide +kernel
theorem dX6_inbound_0 : decode cX6_inbound 0 = .ok (.aload_n 0, 1) := by decide +kernel
theorem dX6_inbound_1 : decode cX6_inbound 1 = .ok (.iconst 0, 1) := by decide +kernel
theorem dX6_inbound_2 : decode cX6_inbound 2 = .ok (.putfield 37, 3) := by decide +kernel
theorem dX6_inbound_5 : decode cX6_inbound 5 = .ok (.aload_n 0, 1) := by decide +kernel
theorem dX6_inbound_6 : decode cX6_inbound 6 = .ok (.getfield 137, 3) := by decide +kernel
theorem dX6_inbound_9 : decode cX6_inbound 9 = .ok (.ireturn, 1) := by decide +kernel
theorem dX6_octet_0 : decode cX6_octet 0 = .ok (.aload_n 0, 1) := by decide +kernel
theorem dX6_octet_1 : decode cX6_octet 1 = .ok (.iload_n 1, 1) := by decide +kernel
theorem dX6_octet_2 : decode cX6_octet 2 = .ok (.ifCond .lt 11, 3) := by decide +kernel
theorem dX6_octet_5 : decode cX6_octet 5 = .ok (.iload_n 1, 1) := by decide +kernel
theorem dX6_octet_6 : decode cX6_octet 6 = .ok (.aload_n 0, 1) := by decide +kernel
theorem dX6_octet_7 : decode cX6_octet 7 = .ok (.getfield 137, 3) := by decide +kernel
theorem dX6_octet_10 : decode cX6_octet 10 = .ok (.if_icmp .lt 7, 3) := by decide +kernel
theorem dX6_octet_13 : decode cX6_octet 13 = .ok (.iconst 1, 1) := by decide +kernel
theorem dX6_octet_14 : decode cX6_octet 14 = .ok (.goto 4, 3) := by decide +kernel
theorem dX6_octet_17 : decode cX6_octet 17 = .ok (.iconst 0, 1) := by decide +kernel
theorem dX6_octet_18 : decode cX6_octet 18 = .ok (.putfield 37, 3) := by decide +kernel
theorem dX6_octet_21 : decode cX6_octet 21 = .ok (.aload_n 0, 1) := by decide +kernel
theorem dX6_octet_22 : decode cX6_octet 22 = .ok (.getfield 37, 3) := by decide +kernel
theorem dX6_octet_25 : decode cX6_octet 25 = .ok (.ifCond .eq 7, 3) := by decide +kernel
theorem dX6_octet_28 : decode cX6_octet 28 = .ok (.iconst 0, 1) := by decide +kernel
theorem dX6_octet_29 : decode cX6_octet 29 = .ok (.goto 10, 3) := by decide +kernel
theorem dX6_octet_32 : decode cX6_octet 32 = .ok (.aload_n 0, 1) := by decide +kernel
theorem dX6_octet_33 : decode cX6_octet 33 = .ok (.getfield 24, 3) := by decide +kernel
theorem dX6_octet_36 : decode cX6_octet 36 = .ok (.iload_n 1, 1) := by decide +kernel
theorem dX6_octet_37 : decode cX6_octet 37 = .ok (.iaload, 1) := by decide +kernel
theorem dX6_octet_38 : decode cX6_octet 38 = .ok (.i2b, 1) := by decide +kernel
theorem dX6_octet_39 : decode cX6_octet 39 = .ok (.ireturn, 1) := by decide +kernel
set_option maxRecDepth 20000 in
theorem ggX6_field_X6_attributeAt : GoodIn wsX6_field wsX6_attributeAt := goodIn_r _ [8, 3, 9, 10, 11, 7, 12, 2, 17, 18, 19, 20, 21, 22, 23, 24, 25, 26, 27, 28, 29, 30, 31, 32, 33, 34, 35, 36, 37, 38, 39, 40, 41] (by decide +kernel) (by decide +kernel)
set_option maxRecDepth 20000 in
theorem gX6_field_X6_attributeAt : GoodIn wsX6_field (wsV RX6 230 RX6 yX6_attributeAt wsX6_attributeAt) := goodIn_app (goodIn_of _ (by decide +kernel)) ggX6_field_X6_attributeAt
set_option maxRecDepth 20000 in
theorem ggX6_field_X6_round : GoodIn wsX6_field wsX6_round := goodIn_r _ [16, 3, 17, 18, 19, 20, 21, 22, 23, 24, 25, 26, 27, 28, 29, 30, 31, 32, 33, 34, 35, 36, 37, 38, 39, 40, 41] (by decide +kernel) (by decide +kernel)
set_option maxRecDepth 20000 in
theorem gX6_field_X6_round : GoodIn wsX6_field (wsV RX6 52 RX6 yX6_round wsX6_round) := goodIn_app (goodIn_of _ (by decide +kernel)) ggX6_field_X6_round
set_option maxRecDepth 20000 in
theorem ggX6_field_X6_isAttribute : GoodIn wsX6_field wsX6_isAttribute := goodIn_r _ [12, 2, 17, 18, 19, 20, 21, 22, 23, 24, 25, 26, 27, 28, 29, 30, 31, 32, 33, 34, 35, 36, 37, 38, 39, 40, 41] (by decide +kernel) (by decide +kernel)
set_option maxRecDepth 20000 in
theorem gX6_field_X6_isAttribute : GoodIn wsX6_field (wsV RX6 56 RX6 yX6_isAttribute wsX6_isAttribute) := goodIn_app (goodIn_of _ (by decide +kernel)) ggX6_field_X6_isAttribute
theorem dX6_field_0 : decode cX6_field 0 = .ok (.aload_n 0, 1) := by decide +kernel
theorem dX6_field_1 : decode cX6_field 1 = .ok (.iconst 0, 1) := by decide +kernel
theorem dX6_field_2 : decode cX6_field 2 = .ok (.putfield 37, 3) := by decide +kernel
theorem dX6_field_5 : decode cX6_field 5 = .ok (.aload_n 0, 1) := by decide +kernel
theorem dX6_field_6 : decode cX6_field 6 = .ok (.iload_n 1, 1) := by decide +kernel
theorem dX6_field_7 : decode cX6_field 7 = .ok (.invokevirtual 230, 3) := by decide +kernel
theorem dX6_field_10 : decode cX6_field 10 = .ok (.istore_n 3, 1) := by decide +kernel
theorem dX6_field_11 : decode cX6_field 11 = .ok (.iload_n 3, 1) := by decide +kernel
theorem dX6_field_12 : decode cX6_field 12 = .ok (.iconst (-1), 1) := by decide +kernel
theorem dX6_field_13 : decode cX6_field 13 = .ok (.if_icmp .eq 12, 3) := by decide +kernel
theorem dX6_field_16 : decode cX6_field 16 = .ok (.iload_n 2, 1) := by decide +kernel
theorem dX6_field_17 : decode cX6_field 17 = .ok (.ifCond .lt 8, 3) := by decide +kernel
theorem dX6_field_20 : decode cX6_field 20 = .ok (.iload_n 2, 1) := by decide +kernel
theorem dX6_field_21 : decode cX6_field 21 = .ok (.iconst 3, 1) := by decide +kernel
theorem dX6_field_22 : decode cX6_field 22 = .ok (.if_icmp .le 5, 3) := by decide +kernel
theorem dX6_field_25 : decode cX6_field 25 = .ok (.iconst (-1), 1) := by decide +kernel
theorem dX6_field_26 : decode cX6_field 26 = .ok (.ireturn, 1) := by decide +kernel
theorem dX6_field_27 : decode cX6_field 27 = .ok (.iload_n 2, 1) := by decide +kernel
theorem dX6_field_28 : decode cX6_field 28 = .ok (.ifCond .ne 5, 3) := by decide +kernel
theorem dX6_field_31 : decode cX6_field 31 = .ok (.iload_n 3, 1) := by decide +kernel
theorem dX6_field_32 : decode cX6_field 32 = .ok (.ireturn, 1) := by decide +kernel
theorem dX6_field_33 : decode cX6_field 33 = .ok (.iload_n 2, 1) := by decide +kernel
theorem dX6_field_34 : decode cX6_field 34 = .ok (.iconst 1, 1) := by decide +kernel
theorem dX6_field_35 : decode cX6_field 35 = .ok (.if_icmp .ne 14, 3) := by decide +kernel
theorem dX6_field_38 : decode cX6_field 38 = .ok (.aload_n 0, 1) := by decide +kernel
theorem dX6_field_39 : decode cX6_field 39 = .ok (.getfield 7, 3) := by decide +kernel
theorem dX6_field_42 : decode cX6_field 42 = .ok (.iload_n 3, 1) := by decide +kernel
theorem dX6_field_43 : decode cX6_field 43 = .ok (.iaload, 1) := by decide +kernel
theorem dX6_field_44 : decode cX6_field 44 = .ok (.sipush 256, 3) := by decide +kernel
theorem dX6_field_47 : decode cX6_field 47 = .ok (.isub, 1) := by decide +kernel
theorem dX6_field_48 : decode cX6_field 48 = .ok (.ireturn, 1) := by decide +kernel
theorem dX6_field_49 : decode cX6_field 49 = .ok (.iconst 0, 1) := by decide +kernel
theorem dX6_field_50 : decode cX6_field 50 = .ok (.istore 4, 2) := by decide +kernel
theorem dX6_field_52 : decode cX6_field 52 = .ok (.iconst 0, 1) := by decide +kernel
theorem dX6_field_53 : decode cX6_field 53 = .ok (.istore 5, 2) := by decide +kernel
theorem dX6_field_55 : decode cX6_field 55 = .ok (.iconst 1, 1) := by decide +kernel
theorem dX6_field_56 : decode cX6_field 56 = .ok (.istore 6, 2) := by decide +kernel
theorem dX6_field_58 : decode cX6_field 58 = .ok (.iload 6, 2) := by decide +kernel
theorem dX6_field_60 : decode cX6_field 60 = .ok (.aload_n 0, 1) := by decide +kernel
theorem dX6_field_61 : decode cX6_field 61 = .ok (.getfield 46, 3) := by decide +kernel
theorem dX6_field_64 : decode cX6_field 64 = .ok (.if_icmp .ge 46, 3) := by decide +kernel
theorem dX6_field_67 : decode cX6_field 67 = .ok (.aload_n 0, 1) := by decide +kernel
theorem dX6_field_68 : decode cX6_field 68 = .ok (.aload_n 0, 1) := by decide +kernel
theorem dX6_field_69 : decode cX6_field 69 = .ok (.iload_n 3, 1) := by decide +kernel
theorem dX6_field_70 : decode cX6_field 70 = .ok (.iload 6, 2) := by decide +kernel
theorem dX6_field_72 : decode cX6_field 72 = .ok (.iadd, 1) := by decide +kernel
theorem dX6_field_73 : decode cX6_field 73 = .ok (.invokevirtual 52, 3) := by decide +kernel
theorem dX6_field_76 : decode cX6_field 76 = .ok (.invokevirtual 56, 3) := by decide +kernel
theorem dX6_field_79 : decode cX6_field 79 = .ok (.ifCond .ne 31, 3) := by decide +kernel
theorem dX6_field_82 : decode cX6_field 82 = .ok (.iinc 4 1, 3) := by decide +kernel
theorem dX6_field_85 : decode cX6_field 85 = .ok (.aload_n 0, 1) := by decide +kernel
theorem dX6_field_86 : decode cX6_field 86 = .ok (.getfield 7, 3) := by decide +kernel
theorem dX6_field_89 : decode cX6_field 89 = .ok (.aload_n 0, 1) := by decide +kernel
theorem dX6_field_90 : decode cX6_field 90 = .ok (.iload_n 3, 1) := by decide +kernel
theorem dX6_field_91 : decode cX6_field 91 = .ok (.iload 6, 2) := by decide +kernel
theorem dX6_field_93 : decode cX6_field 93 = .ok (.iadd, 1) := by decide +kernel
theorem dX6_field_94 : decode cX6_field 94 = .ok (.invokevirtual 52, 3) := by decide +kernel
theorem dX6_field_97 : decode cX6_field 97 = .ok (.iaload, 1) := by decide +kernel
theorem dX6_field_98 : decode cX6_field 98 = .ok (.ifCond .eq 6, 3) := by decide +kernel
theorem dX6_field_101 : decode cX6_field 101 = .ok (.iinc 5 1, 3) := by decide +kernel
theorem dX6_field_104 : decode cX6_field 104 = .ok (.iinc 6 1, 3) := by decide +kernel
theorem dX6_field_107 : decode cX6_field 107 = .ok (.goto (-49), 3) := by decide +kernel
theorem dX6_field_110 : decode cX6_field 110 = .ok (.iload_n 2, 1) := by decide +kernel
theorem dX6_field_111 : decode cX6_field 111 = .ok (.iconst 2, 1) := by decide +kernel
theorem dX6_field_112 : decode cX6_field 112 = .ok (.if_icmp .ne 8, 3) := by decide +kernel
theorem dX6_field_115 : decode cX6_field 115 = .ok (.iload 4, 2) := by decide +kernel
theorem dX6_field_117 : decode cX6_field 117 = .ok (.goto 5, 3) := by decide +kernel
theorem dX6_field_120 : decode cX6_field 120 = .ok (.iload 5, 2) := by decide +kernel
theorem dX6_field_122 : decode cX6_field 122 = .ok (.ireturn, 1) := by decide +kernel
theorem dX6_cursor_0 : decode cX6_cursor 0 = .ok (.aload_n 0, 1) := by decide +kernel
theorem dX6_cursor_1 : decode cX6_cursor 1 = .ok (.iconst 0, 1) := by decide +kernel
theorem dX6_cursor_2 : decode cX6_cursor 2 = .ok (.putfield 37, 3) := by decide +kernel
theorem dX6_cursor_5 : decode cX6_cursor 5 = .ok (.aload_n 0, 1) := by decide +kernel
theorem dX6_cursor_6 : decode cX6_cursor 6 = .ok (.getfield 49, 3) := by decide +kernel
theorem dX6_cursor_9 : decode cX6_cursor 9 = .ok (.ireturn, 1) := by decide +kernel
theorem dX6_locked_0 : decode cX6_locked 0 = .ok (.aload_n 0, 1) := by decide +kernel
theorem dX6_locked_1 : decode cX6_locked 1 = .ok (.iconst 0, 1) := by decide +kernel
theorem dX6_locked_2 : decode cX6_locked 2 = .ok (.putfield 37, 3) := by decide +kernel
theorem dX6_locked_5 : decode cX6_locked 5 = .ok (.aload_n 0, 1) := by decide +kernel
theorem dX6_locked_6 : decode cX6_locked 6 = .ok (.getfield 13, 3) := by decide +kernel
theorem dX6_locked_9 : decode cX6_locked 9 = .ok (.ireturn, 1) := by decide +kernel
set_option maxRecDepth 20000 in
theorem ggX6_modified_X6_attributeAt : GoodIn wsX6_modified wsX6_attributeAt := goodIn_r _ [7, 8, 9, 10, 11, 6, 12, 2, 13, 14, 15, 16, 17, 18, 19, 20, 21, 22, 23, 24, 25, 26, 27, 28, 29, 30, 31, 32, 33, 34, 35, 36, 37] (by decide +kernel) (by decide +kernel)
set_option maxRecDepth 20000 in
theorem gX6_modified_X6_attributeAt : GoodIn wsX6_modified (wsV RX6 230 RX6 yX6_attributeAt wsX6_attributeAt) := goodIn_app (goodIn_of _ (by decide +kernel)) ggX6_modified_X6_attributeAt
theorem dX6_modified_0 : decode cX6_modified 0 = .ok (.aload_n 0, 1) := by decide +kernel
theorem dX6_modified_1 : decode cX6_modified 1 = .ok (.iconst 0, 1) := by decide +kernel
theorem dX6_modified_2 : decode cX6_modified 2 = .ok (.putfield 37, 3) := by decide +kernel
theorem dX6_modified_5 : decode cX6_modified 5 = .ok (.aload_n 0, 1) := by decide +kernel
theorem dX6_modified_6 : decode cX6_modified 6 = .ok (.iload_n 1, 1) := by decide +kernel
theorem dX6_modified_7 : decode cX6_modified 7 = .ok (.invokevirtual 230, 3) := by decide +kernel
theorem dX6_modified_10 : decode cX6_modified 10 = .ok (.istore_n 2, 1) := by decide +kernel
theorem dX6_modified_11 : decode cX6_modified 11 = .ok (.iload_n 2, 1) := by decide +kernel
theorem dX6_modified_12 : decode cX6_modified 12 = .ok (.iconst (-1), 1) := by decide +kernel
theorem dX6_modified_13 : decode cX6_modified 13 = .ok (.if_icmp .eq 18, 3) := by decide +kernel
theorem dX6_modified_16 : decode cX6_modified 16 = .ok (.aload_n 0, 1) := by decide +kernel
theorem dX6_modified_17 : decode cX6_modified 17 = .ok (.getfield 7, 3) := by decide +kernel
theorem dX6_modified_20 : decode cX6_modified 20 = .ok (.iload_n 2, 1) := by decide +kernel
theorem dX6_modified_21 : decode cX6_modified 21 = .ok (.iaload, 1) := by decide +kernel
theorem dX6_modified_22 : decode cX6_modified 22 = .ok (.iconst 1, 1) := by decide +kernel
theorem dX6_modified_23 : decode cX6_modified 23 = .ok (.iand, 1) := by decide +kernel
theorem dX6_modified_24 : decode cX6_modified 24 = .ok (.ifCond .eq 7, 3) := by decide +kernel
theorem dX6_modified_27 : decode cX6_modified 27 = .ok (.iconst 1, 1) := by decide +kernel
theorem dX6_modified_28 : decode cX6_modified 28 = .ok (.goto 4, 3) := by decide +kernel
theorem dX6_modified_31 : decode cX6_modified 31 = .ok (.iconst 0, 1) := by decide +kernel
theorem dX6_modified_32 : decode cX6_modified 32 = .ok (.ireturn, 1) := by decide +kernel
theorem dX6_cell_0 : decode cX6_cell 0 = .ok (.aload_n 0, 1) := by decide +kernel
theorem dX6_cell_1 : decode cX6_cell 1 = .ok (.iload_n 1, 1) := by decide +kernel
theorem dX6_cell_2 : decode cX6_cell 2 = .ok (.ifCond .lt 11, 3) := by decide +kernel
theorem dX6_cell_5 : decode cX6_cell 5 = .ok (.iload_n 1, 1) := by decide +kernel
theorem dX6_cell_6 : decode cX6_cell 6 = .ok (.aload_n 0, 1) := by decide +kernel
theorem dX6_cell_7 : decode cX6_cell 7 = .ok (.getfield 46, 3) := by decide +kernel
theorem dX6_cell_10 : decode cX6_cell 10 = .ok (.if_icmp .lt 7, 3) := by decide +kernel
theorem dX6_cell_13 : decode cX6_cell 13 = .ok (.iconst 1, 1) := by decide +kernel
theorem dX6_cell_14 : decode cX6_cell 14 = .ok (.goto 4, 3) := by decide +kernel
theorem dX6_cell_17 : decode cX6_cell 17 = .ok (.iconst 0, 1) := by decide +kernel
theorem dX6_cell_18 : decode cX6_cell 18 = .ok (.putfield 37, 3) := by decide +kernel
theorem dX6_cell_21 : decode cX6_cell 21 = .ok (.aload_n 0, 1) := by decide +kernel
theorem dX6_cell_22 : decode cX6_cell 22 = .ok (.getfield 37, 3) := by decide +kernel
theorem dX6_cell_25 : decode cX6_cell 25 = .ok (.ifCond .eq 7, 3) := by decide +kernel
theorem dX6_cell_28 : decode cX6_cell 28 = .ok (.iconst 0, 1) := by decide +kernel
theorem dX6_cell_29 : decode cX6_cell 29 = .ok (.goto 9, 3) := by decide +kernel
theorem dX6_cell_32 : decode cX6_cell 32 = .ok (.aload_n 0, 1) := by decide +kernel
theorem dX6_cell_33 : decode cX6_cell 33 = .ok (.getfield 7, 3) := by decide +kernel
theorem dX6_cell_36 : decode cX6_cell 36 = .ok (.iload_n 1, 1) := by decide +kernel
theorem dX6_cell_37 : decode cX6_cell 37 = .ok (.iaload, 1) := by decide +kernel
theorem dX6_cell_38 : decode cX6_cell 38 = .ok (.ireturn, 1) := by decide +kernel
set_option maxRecDepth 20000 in
theorem ggX6_count_X6_fields : GoodIn wsX6_count wsX6_fields := goodIn_r _ [12, 13, 14, 15, 16, 11, 17, 18, 19, 20, 21, 22, 23, 24, 25, 26, 27, 28, 29, 30, 31, 32, 33, 34, 35, 36, 37, 38, 39, 40, 41, 42, 43] (by decide +kernel) (by decide +kernel)
set_option maxRecDepth 20000 in
theorem gX6_count_X6_fields : GoodIn wsX6_count (wsV RX6 69 RX6 yX6_fields wsX6_fields) := goodIn_app (goodIn_of _ (by decide +kernel)) ggX6_count_X6_fields
theorem dX6_count_0 : decode cX6_count 0 = .ok (.aload_n 0, 1) := by decide +kernel
theorem dX6_count_1 : decode cX6_count 1 = .ok (.iconst 0, 1) := by decide +kernel
theorem dX6_count_2 : decode cX6_count 2 = .ok (.putfield 37, 3) := by decide +kernel
theorem dX6_count_5 : decode cX6_count 5 = .ok (.iload_n 1, 1) := by decide +kernel
theorem dX6_count_6 : decode cX6_count 6 = .ok (.tableswitch 85 0 6 #[42, 47, 52, 57, 62, 67, 80], 42) := by decide +kernel
theorem dX6_count_48 : decode cX6_count 48 = .ok (.aload_n 0, 1) := by decide +kernel
theorem dX6_count_49 : decode cX6_count 49 = .ok (.getfield 40, 3) := by decide +kernel
theorem dX6_count_52 : decode cX6_count 52 = .ok (.ireturn, 1) := by decide +kernel
theorem dX6_count_53 : decode cX6_count 53 = .ok (.aload_n 0, 1) := by decide +kernel
theorem dX6_count_54 : decode cX6_count 54 = .ok (.getfield 43, 3) := by decide +kernel
theorem dX6_count_57 : decode cX6_count 57 = .ok (.ireturn, 1) := by decide +kernel
theorem dX6_count_58 : decode cX6_count 58 = .ok (.aload_n 0, 1) := by decide +kernel
theorem dX6_count_59 : decode cX6_count 59 = .ok (.invokevirtual 69, 3) := by decide +kernel
theorem dX6_count_62 : decode cX6_count 62 = .ok (.ireturn, 1) := by decide +kernel
theorem dX6_count_63 : decode cX6_count 63 = .ok (.aload_n 0, 1) := by decide +kernel
theorem dX6_count_64 : decode cX6_count 64 = .ok (.getfield 131, 3) := by decide +kernel
theorem dX6_count_67 : decode cX6_count 67 = .ok (.ireturn, 1) := by decide +kernel
theorem dX6_count_68 : decode cX6_count 68 = .ok (.aload_n 0, 1) := by decide +kernel
theorem dX6_count_69 : decode cX6_count 69 = .ok (.getfield 150, 3) := by decide +kernel
theorem dX6_count_72 : decode cX6_count 72 = .ok (.ireturn, 1) := by decide +kernel
theorem dX6_count_73 : decode cX6_count 73 = .ok (.aload_n 0, 1) := by decide +kernel
theorem dX6_count_74 : decode cX6_count 74 = .ok (.getfield 204, 3) := by decide +kernel
theorem dX6_count_77 : decode cX6_count 77 = .ok (.ifCond .eq 7, 3) := by decide +kernel
theorem dX6_count_80 : decode cX6_count 80 = .ok (.iconst 1, 1) := by decide +kernel
theorem dX6_count_81 : decode cX6_count 81 = .ok (.goto 4, 3) := by decide +kernel
theorem dX6_count_84 : decode cX6_count 84 = .ok (.iconst 0, 1) := by decide +kernel
theorem dX6_count_85 : decode cX6_count 85 = .ok (.ireturn, 1) := by decide +kernel
theorem dX6_count_86 : decode cX6_count 86 = .ok (.aload_n 0, 1) := by decide +kernel
theorem dX6_count_87 : decode cX6_count 87 = .ok (.getfield 17, 3) := by decide +kernel
theorem dX6_count_90 : decode cX6_count 90 = .ok (.ireturn, 1) := by decide +kernel
theorem dX6_count_91 : decode cX6_count 91 = .ok (.iconst (-1), 1) := by decide +kernel
theorem dX6_count_92 : decode cX6_count 92 = .ok (.ireturn, 1) := by decide +kernel
