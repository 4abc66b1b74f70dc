theorem dX0_init_0 : decode cX0_init 0 = .ok (.aload_n 0, 1) := by decide +kernel
theorem dX0_init_1 : decode cX0_init 1 = .ok (.invokespecial 3, 3) := by decide +kernel
theorem dX0_init_4 : decode cX0_init 4 = .ok (.aload_n 0, 1) := by decide +kernel
theorem dX0_init_5 : decode cX0_init 5 = .ok (.bipush 64, 2) := by decide +kernel
theorem dX0_init_7 : decode cX0_init 7 = .ok (.newarray .byte, 2) := by decide +kernel
theorem dX0_init_9 : decode cX0_init 9 = .ok (.putfield 11, 3) := by decide +kernel
theorem dX0_init_12 : decode cX0_init 12 = .ok (.aload_n 0, 1) := by decide +kernel
theorem dX0_init_13 : decode cX0_init 13 = .ok (.iconst 0, 1) := by decide +kernel
theorem dX0_init_14 : decode cX0_init 14 = .ok (.putfield 15, 3) := by decide +kernel
theorem dX0_init_17 : decode cX0_init 17 = .ok (.return_, 1) := by decide +kernel
set_option maxRecDepth 20000 in
theorem ggX0_add_J7_copyOf_9075b : GoodIn wsX0_add wsJ7_copyOf_9075b := goodIn_r _ [7, 8, 9, 10, 11, 12, 13, 14, 15, 16, 17, 18, 19, 20, 21, 22] (by decide +kernel) (by decide +kernel)
set_option maxRecDepth 20000 in
theorem gX0_add_J7_copyOf_9075b : GoodIn wsX0_add (va_wsS RX0 20 yJ7_copyOf_9075b wsJ7_copyOf_9075b) := goodIn_app (goodIn_of _ (by decide +kernel)) ggX0_add_J7_copyOf_9075b
theorem dX0_add_0 : decode cX0_add 0 = .ok (.aload_n 0, 1) := by decide +kernel
theorem dX0_add_1 : decode cX0_add 1 = .ok (.getfield 15, 3) := by decide +kernel
theorem dX0_add_4 : decode cX0_add 4 = .ok (.aload_n 0, 1) := by decide +kernel
theorem dX0_add_5 : decode cX0_add 5 = .ok (.getfield 11, 3) := by decide +kernel
theorem dX0_add_8 : decode cX0_add 8 = .ok (.arraylength, 1) := by decide +kernel
theorem dX0_add_9 : decode cX0_add 9 = .ok (.if_icmp .lt 29, 3) := by decide +kernel
theorem dX0_add_12 : decode cX0_add 12 = .ok (.aload_n 0, 1) := by decide +kernel
theorem dX0_add_13 : decode cX0_add 13 = .ok (.getfield 15, 3) := by decide +kernel
theorem dX0_add_16 : decode cX0_add 16 = .ok (.ldc 19, 2) := by decide +kernel
theorem dX0_add_18 : decode cX0_add 18 = .ok (.if_icmp .ge 20, 3) := by decide +kernel
theorem dX0_add_21 : decode cX0_add 21 = .ok (.aload_n 0, 1) := by decide +kernel
theorem dX0_add_22 : decode cX0_add 22 = .ok (.aload_n 0, 1) := by decide +kernel
theorem dX0_add_23 : decode cX0_add 23 = .ok (.getfield 11, 3) := by decide +kernel
theorem dX0_add_26 : decode cX0_add 26 = .ok (.iconst 2, 1) := by decide +kernel
theorem dX0_add_27 : decode cX0_add 27 = .ok (.aload_n 0, 1) := by decide +kernel
theorem dX0_add_28 : decode cX0_add 28 = .ok (.getfield 15, 3) := by decide +kernel
theorem dX0_add_31 : decode cX0_add 31 = .ok (.imul, 1) := by decide +kernel
theorem dX0_add_32 : decode cX0_add 32 = .ok (.invokestatic 20, 3) := by decide +kernel
theorem dX0_add_35 : decode cX0_add 35 = .ok (.putfield 11, 3) := by decide +kernel
theorem dX0_add_38 : decode cX0_add 38 = .ok (.aload_n 0, 1) := by decide +kernel
theorem dX0_add_39 : decode cX0_add 39 = .ok (.getfield 15, 3) := by decide +kernel
theorem dX0_add_42 : decode cX0_add 42 = .ok (.ifCond .lt 36, 3) := by decide +kernel
theorem dX0_add_45 : decode cX0_add 45 = .ok (.aload_n 0, 1) := by decide +kernel
theorem dX0_add_46 : decode cX0_add 46 = .ok (.getfield 15, 3) := by decide +kernel
theorem dX0_add_49 : decode cX0_add 49 = .ok (.aload_n 0, 1) := by decide +kernel
theorem dX0_add_50 : decode cX0_add 50 = .ok (.getfield 11, 3) := by decide +kernel
theorem dX0_add_53 : decode cX0_add 53 = .ok (.arraylength, 1) := by decide +kernel
theorem dX0_add_54 : decode cX0_add 54 = .ok (.if_icmp .ge 24, 3) := by decide +kernel
theorem dX0_add_57 : decode cX0_add 57 = .ok (.aload_n 0, 1) := by decide +kernel
theorem dX0_add_58 : decode cX0_add 58 = .ok (.getfield 11, 3) := by decide +kernel
theorem dX0_add_61 : decode cX0_add 61 = .ok (.aload_n 0, 1) := by decide +kernel
theorem dX0_add_62 : decode cX0_add 62 = .ok (.getfield 15, 3) := by decide +kernel
theorem dX0_add_65 : decode cX0_add 65 = .ok (.iload_n 1, 1) := by decide +kernel
theorem dX0_add_66 : decode cX0_add 66 = .ok (.i2b, 1) := by decide +kernel
theorem dX0_add_67 : decode cX0_add 67 = .ok (.bastore, 1) := by decide +kernel
theorem dX0_add_68 : decode cX0_add 68 = .ok (.aload_n 0, 1) := by decide +kernel
theorem dX0_add_69 : decode cX0_add 69 = .ok (.dup, 1) := by decide +kernel
theorem dX0_add_70 : decode cX0_add 70 = .ok (.getfield 15, 3) := by decide +kernel
theorem dX0_add_73 : decode cX0_add 73 = .ok (.iconst 1, 1) := by decide +kernel
theorem dX0_add_74 : decode cX0_add 74 = .ok (.iadd, 1) := by decide +kernel
theorem dX0_add_75 : decode cX0_add 75 = .ok (.putfield 15, 3) := by decide +kernel
theorem dX0_add_78 : decode cX0_add 78 = .ok (.return_, 1) := by decide +kernel
theorem dX0_get_0 : decode cX0_get 0 = .ok (.iload_n 1, 1) := by decide +kernel
theorem dX0_get_1 : decode cX0_get 1 = .ok (.ifCond .lt 20, 3) := by decide +kernel
theorem dX0_get_4 : decode cX0_get 4 = .ok (.iload_n 1, 1) := by decide +kernel
theorem dX0_get_5 : decode cX0_get 5 = .ok (.aload_n 0, 1) := by decide +kernel
theorem dX0_get_6 : decode cX0_get 6 = .ok (.getfield 15, 3) := by decide +kernel
theorem dX0_get_9 : decode cX0_get 9 = .ok (.if_icmp .ge 12, 3) := by decide +kernel
theorem dX0_get_12 : decode cX0_get 12 = .ok (.iload_n 1, 1) := by decide +kernel
theorem dX0_get_13 : decode cX0_get 13 = .ok (.aload_n 0, 1) := by decide +kernel
theorem dX0_get_14 : decode cX0_get 14 = .ok (.getfield 11, 3) := by decide +kernel
theorem dX0_get_17 : decode cX0_get 17 = .ok (.arraylength, 1) := by decide +kernel
theorem dX0_get_18 : decode cX0_get 18 = .ok (.if_icmp .lt 7, 3) := by decide +kernel
theorem dX0_get_21 : decode cX0_get 21 = .ok (.iconst (-1), 1) := by decide +kernel
theorem dX0_get_22 : decode cX0_get 22 = .ok (.goto 13, 3) := by decide +kernel
theorem dX0_get_25 : decode cX0_get 25 = .ok (.aload_n 0, 1) := by decide +kernel
theorem dX0_get_26 : decode cX0_get 26 = .ok (.getfield 11, 3) := by decide +kernel
theorem dX0_get_29 : decode cX0_get 29 = .ok (.iload_n 1, 1) := by decide +kernel
theorem dX0_get_30 : decode cX0_get 30 = .ok (.baload, 1) := by decide +kernel
theorem dX0_get_31 : decode cX0_get 31 = .ok (.sipush 255, 3) := by decide +kernel
theorem dX0_get_34 : decode cX0_get 34 = .ok (.iand, 1) := by decide +kernel
theorem dX0_get_35 : decode cX0_get 35 = .ok (.ireturn, 1) := by decide +kernel
theorem dX0_clear_0 : decode cX0_clear 0 = .ok (.aload_n 0, 1) := by decide +kernel
theorem dX0_clear_1 : decode cX0_clear 1 = .ok (.iconst 0, 1) := by decide +kernel
theorem dX0_clear_2 : decode cX0_clear 2 = .ok (.putfield 15, 3) := by decide +kernel
theorem dX0_clear_5 : decode cX0_clear 5 = .ok (.return_, 1) := by decide +kernel
theorem dX2_init_0 : decode cX2_init 0 = .ok (.aload_n 0, 1) := by decide +kernel
theorem dX2_init_1 : decode cX2_init 1 = .ok (.invokespecial 3, 3) := by decide +kernel
theorem dX2_init_4 : decode cX2_init 4 = .ok (.aload_n 0, 1) := by decide +kernel
theorem dX2_init_5 : decode cX2_init 5 = .ok (.aload_n 1, 1) := by decide +kernel
theorem dX2_init_6 : decode cX2_init 6 = .ok (.putfield 9, 3) := by decide +kernel
theorem dX2_init_9 : decode cX2_init 9 = .ok (.aload_n 0, 1) := by decide +kernel
theorem dX2_init_10 : decode cX2_init 10 = .ok (.aload_n 2, 1) := by decide +kernel
theorem dX2_init_11 : decode cX2_init 11 = .ok (.putfield 15, 3) := by decide +kernel
theorem dX2_init_14 : decode cX2_init 14 = .ok (.aload_n 0, 1) := by decide +kernel
theorem dX2_init_15 : decode cX2_init 15 = .ok (.iconst 1, 1) := by decide +kernel
theorem dX2_init_16 : decode cX2_init 16 = .ok (.putfield 19, 3) := by decide +kernel
theorem dX2_init_19 : decode cX2_init 19 = .ok (.aload_n 0, 1) := by decide +kernel
theorem dX2_init_20 : decode cX2_init 20 = .ok (.iconst 0, 1) := by decide +kernel
theorem dX2_init_21 : decode cX2_init 21 = .ok (.putfield 23, 3) := by decide +kernel
theorem dX2_init_24 : decode cX2_init 24 = .ok (.return_, 1) := by decide +kernel
set_option maxRecDepth 20000 in
theorem ggX2_enter_X2_takes : GoodIn wsX2_enter wsX2_takes := goodIn_r _ [9, 2, 10, 11, 12, 13, 14, 15, 16, 17, 18, 19, 20, 21, 22, 23, 24, 25, 26, 27, 28, 29, 30, 31, 32, 33, 34, 35, 36, 37, 81, 82, 83, 84, 85, 86, 87, 88, 89, 90, 91, 92] (by decide +kernel) (by decide +kernel)
set_option maxRecDepth 20000 in
theorem gX2_enter_X2_takes : GoodIn wsX2_enter (wsV RX2 32 RX2 yX2_takes wsX2_takes) := goodIn_app (goodIn_of _ (by decide +kernel)) ggX2_enter_X2_takes
set_option maxRecDepth 20000 in
theorem ggX2_enter_X3_makeRoom : GoodIn wsX2_enter wsX3_makeRoom := goodIn_r _ [41, 42, 43, 44, 13, 45, 46, 47, 48, 49, 24, 25, 15, 16, 17, 18, 19, 50, 51, 52, 53, 54, 55, 56, 57, 85, 86, 87, 88, 89, 90, 91, 92] (by decide +kernel) (by decide +kernel)
set_option maxRecDepth 20000 in
theorem gX2_enter_X3_makeRoom : GoodIn wsX2_enter (wsV RX2 36 RX3 yX3_makeRoom wsX3_makeRoom) := goodIn_app (goodIn_of _ (by decide +kernel)) ggX2_enter_X3_makeRoom
set_option maxRecDepth 20000 in
theorem ggX2_enter_X3_put : GoodIn wsX2_enter wsX3_put := goodIn_r _ [57, 19, 24, 85, 86, 87, 88, 89, 90, 91, 92] (by decide +kernel) (by decide +kernel)
set_option maxRecDepth 20000 in
theorem gX2_enter_X3_put : GoodIn wsX2_enter (wsV RX2 40 RX3 yX3_put wsX3_put) := goodIn_app (goodIn_of _ (by decide +kernel)) ggX2_enter_X3_put
set_option maxRecDepth 20000 in
theorem ggX2_enter_X3_markModified : GoodIn wsX2_enter wsX3_markModified := goodIn_r _ [62, 20, 21, 22, 13, 23, 24, 25, 15, 16, 17, 18, 19, 26, 27, 28, 29, 54, 55, 56, 57, 85, 86, 87, 88, 89, 90, 91, 92] (by decide +kernel) (by decide +kernel)
set_option maxRecDepth 20000 in
theorem gX2_enter_X3_markModified : GoodIn wsX2_enter (wsV RX2 44 RX3 yX3_markModified wsX3_markModified) := goodIn_app (goodIn_of _ (by decide +kernel)) ggX2_enter_X3_markModified
set_option maxRecDepth 20000 in
theorem ggX2_enter_X2_placeBehindTyped : GoodIn wsX2_enter wsX2_placeBehindTyped := goodIn_r _ [66, 2, 67, 51, 52, 13, 53, 25, 68, 16, 17, 18, 19, 69, 70, 71, 72, 73, 74, 75, 76, 77, 78, 79, 80, 15, 30, 31, 32, 33, 50, 81, 82, 83, 84, 85, 86, 87, 88, 89, 90, 91, 92] (by decide +kernel) (by decide +kernel)
set_option maxRecDepth 20000 in
theorem gX2_enter_X2_placeBehindTyped : GoodIn wsX2_enter (wsV RX2 48 RX2 yX2_placeBehindTyped wsX2_placeBehindTyped) := goodIn_app (goodIn_of _ (by decide +kernel)) ggX2_enter_X2_placeBehindTyped
theorem dX2_enter_0 : decode cX2_enter 0 = .ok (.iload_n 1, 1) := by decide +kernel
theorem dX2_enter_1 : decode cX2_enter 1 = .ok (.bipush 64, 2) := by decide +kernel
theorem dX2_enter_3 : decode cX2_enter 3 = .ok (.if_icmp .lt 10, 3) := by decide +kernel
theorem dX2_enter_6 : decode cX2_enter 6 = .ok (.iload_n 1, 1) := by decide +kernel
theorem dX2_enter_7 : decode cX2_enter 7 = .ok (.sipush 254, 3) := by decide +kernel
theorem dX2_enter_10 : decode cX2_enter 10 = .ok (.if_icmp .le 5, 3) := by decide +kernel
theorem dX2_enter_13 : decode cX2_enter 13 = .ok (.iconst (-1), 1) := by decide +kernel
theorem dX2_enter_14 : decode cX2_enter 14 = .ok (.ireturn, 1) := by decide +kernel
theorem dX2_enter_15 : decode cX2_enter 15 = .ok (.aload_n 0, 1) := by decide +kernel
theorem dX2_enter_16 : decode cX2_enter 16 = .ok (.getfield 19, 3) := by decide +kernel
theorem dX2_enter_19 : decode cX2_enter 19 = .ok (.ifCond .eq 5, 3) := by decide +kernel
theorem dX2_enter_22 : decode cX2_enter 22 = .ok (.iconst 0, 1) := by decide +kernel
theorem dX2_enter_23 : decode cX2_enter 23 = .ok (.ireturn, 1) := by decide +kernel
theorem dX2_enter_24 : decode cX2_enter 24 = .ok (.aload_n 0, 1) := by decide +kernel
theorem dX2_enter_25 : decode cX2_enter 25 = .ok (.getfield 9, 3) := by decide +kernel
theorem dX2_enter_28 : decode cX2_enter 28 = .ok (.getfield 26, 3) := by decide +kernel
theorem dX2_enter_31 : decode cX2_enter 31 = .ok (.istore_n 2, 1) := by decide +kernel
theorem dX2_enter_32 : decode cX2_enter 32 = .ok (.aload_n 0, 1) := by decide +kernel
theorem dX2_enter_33 : decode cX2_enter 33 = .ok (.iload_n 2, 1) := by decide +kernel
theorem dX2_enter_34 : decode cX2_enter 34 = .ok (.iload_n 1, 1) := by decide +kernel
theorem dX2_enter_35 : decode cX2_enter 35 = .ok (.invokevirtual 32, 3) := by decide +kernel
theorem dX2_enter_38 : decode cX2_enter 38 = .ok (.ifCond .eq 21, 3) := by decide +kernel
theorem dX2_enter_41 : decode cX2_enter 41 = .ok (.aload_n 0, 1) := by decide +kernel
theorem dX2_enter_42 : decode cX2_enter 42 = .ok (.getfield 23, 3) := by decide +kernel
theorem dX2_enter_45 : decode cX2_enter 45 = .ok (.ifCond .eq 21, 3) := by decide +kernel
theorem dX2_enter_48 : decode cX2_enter 48 = .ok (.aload_n 0, 1) := by decide +kernel
theorem dX2_enter_49 : decode cX2_enter 49 = .ok (.getfield 9, 3) := by decide +kernel
theorem dX2_enter_52 : decode cX2_enter 52 = .ok (.iload_n 2, 1) := by decide +kernel
theorem dX2_enter_53 : decode cX2_enter 53 = .ok (.invokevirtual 36, 3) := by decide +kernel
theorem dX2_enter_56 : decode cX2_enter 56 = .ok (.ifCond .ne 10, 3) := by decide +kernel
theorem dX2_enter_59 : decode cX2_enter 59 = .ok (.aload_n 0, 1) := by decide +kernel
theorem dX2_enter_60 : decode cX2_enter 60 = .ok (.iconst 1, 1) := by decide +kernel
theorem dX2_enter_61 : decode cX2_enter 61 = .ok (.putfield 19, 3) := by decide +kernel
theorem dX2_enter_64 : decode cX2_enter 64 = .ok (.iconst 0, 1) := by decide +kernel
theorem dX2_enter_65 : decode cX2_enter 65 = .ok (.ireturn, 1) := by decide +kernel
theorem dX2_enter_66 : decode cX2_enter 66 = .ok (.aload_n 0, 1) := by decide +kernel
theorem dX2_enter_67 : decode cX2_enter 67 = .ok (.getfield 9, 3) := by decide +kernel
theorem dX2_enter_70 : decode cX2_enter 70 = .ok (.iload_n 2, 1) := by decide +kernel
theorem dX2_enter_71 : decode cX2_enter 71 = .ok (.iload_n 1, 1) := by decide +kernel
theorem dX2_enter_72 : decode cX2_enter 72 = .ok (.invokevirtual 40, 3) := by decide +kernel
theorem dX2_enter_75 : decode cX2_enter 75 = .ok (.aload_n 0, 1) := by decide +kernel
theorem dX2_enter_76 : decode cX2_enter 76 = .ok (.getfield 9, 3) := by decide +kernel
theorem dX2_enter_79 : decode cX2_enter 79 = .ok (.iload_n 2, 1) := by decide +kernel
theorem dX2_enter_80 : decode cX2_enter 80 = .ok (.invokevirtual 44, 3) := by decide +kernel
theorem dX2_enter_83 : decode cX2_enter 83 = .ok (.aload_n 0, 1) := by decide +kernel
theorem dX2_enter_84 : decode cX2_enter 84 = .ok (.getfield 9, 3) := by decide +kernel
theorem dX2_enter_87 : decode cX2_enter 87 = .ok (.aload_n 0, 1) := by decide +kernel
theorem dX2_enter_88 : decode cX2_enter 88 = .ok (.iload_n 2, 1) := by decide +kernel
theorem dX2_enter_89 : decode cX2_enter 89 = .ok (.invokevirtual 48, 3) := by decide +kernel
theorem dX2_enter_92 : decode cX2_enter 92 = .ok (.putfield 26, 3) := by decide +kernel
theorem dX2_enter_95 : decode cX2_enter 95 = .ok (.iconst 1, 1) := by decide +kernel
theorem dX2_enter_96 : decode cX2_enter 96 = .ok (.ireturn, 1) := by decide +kernel
set_option maxRecDepth 20000 in
theorem ggX2_takes_X3_mayBeTypedIn : GoodIn wsX2_takes wsX3_mayBeTypedIn := goodIn_r _ [6, 7, 8, 9, 5, 10, 11, 12, 13, 14, 15, 16, 17, 18, 19, 20, 21, 22, 23, 24, 25, 34, 35, 36, 37, 38, 39, 40, 41] (by decide +kernel) (by decide +kernel)
set_option maxRecDepth 20000 in
theorem gX2_takes_X3_mayBeTypedIn : GoodIn wsX2_takes (wsV RX2 52 RX3 yX3_mayBeTypedIn wsX3_mayBeTypedIn) := goodIn_app (goodIn_of _ (by decide +kernel)) ggX2_takes_X3_mayBeTypedIn
set_option maxRecDepth 20000 in
theorem ggX2_takes_X3_attributeOver : GoodIn wsX2_takes wsX3_attributeOver := goodIn_r _ [29, 12, 13, 14, 5, 15, 16, 17, 7, 8, 9, 10, 11, 18, 19, 20, 21, 34, 35, 36, 37, 38, 39, 40, 41] (by decide +kernel) (by decide +kernel)
set_option maxRecDepth 20000 in
theorem gX2_takes_X3_attributeOver : GoodIn wsX2_takes (wsV RX2 55 RX3 yX3_attributeOver wsX3_attributeOver) := goodIn_app (goodIn_of _ (by decide +kernel)) ggX2_takes_X3_attributeOver
theorem dX2_takes_0 : decode cX2_takes 0 = .ok (.aload_n 0, 1) := by decide +kernel
theorem dX2_takes_1 : decode cX2_takes 1 = .ok (.getfield 9, 3) := by decide +kernel
theorem dX2_takes_4 : decode cX2_takes 4 = .ok (.iload_n 1, 1) := by decide +kernel
theorem dX2_takes_5 : decode cX2_takes 5 = .ok (.invokevirtual 52, 3) := by decide +kernel
theorem dX2_takes_8 : decode cX2_takes 8 = .ok (.ifCond .ne 5, 3) := by decide +kernel
theorem dX2_takes_11 : decode cX2_takes 11 = .ok (.iconst 0, 1) := by decide +kernel
theorem dX2_takes_12 : decode cX2_takes 12 = .ok (.ireturn, 1) := by decide +kernel
theorem dX2_takes_13 : decode cX2_takes 13 = .ok (.aload_n 0, 1) := by decide +kernel
theorem dX2_takes_14 : decode cX2_takes 14 = .ok (.getfield 9, 3) := by decide +kernel
theorem dX2_takes_17 : decode cX2_takes 17 = .ok (.iload_n 1, 1) := by decide +kernel
theorem dX2_takes_18 : decode cX2_takes 18 = .ok (.invokevirtual 55, 3) := by decide +kernel
theorem dX2_takes_21 : decode cX2_takes 21 = .ok (.istore_n 3, 1) := by decide +kernel
theorem dX2_takes_22 : decode cX2_takes 22 = .ok (.iload_n 3, 1) := by decide +kernel
theorem dX2_takes_23 : decode cX2_takes 23 = .ok (.iconst (-1), 1) := by decide +kernel
theorem dX2_takes_24 : decode cX2_takes 24 = .ok (.if_icmp .eq 14, 3) := by decide +kernel
theorem dX2_takes_27 : decode cX2_takes 27 = .ok (.iload_n 3, 1) := by decide +kernel
theorem dX2_takes_28 : decode cX2_takes 28 = .ok (.bipush 16, 2) := by decide +kernel
theorem dX2_takes_30 : decode cX2_takes 30 = .ok (.iand, 1) := by decide +kernel
theorem dX2_takes_31 : decode cX2_takes 31 = .ok (.ifCond .eq 7, 3) := by decide +kernel
theorem dX2_takes_34 : decode cX2_takes 34 = .ok (.iconst 1, 1) := by decide +kernel
theorem dX2_takes_35 : decode cX2_takes 35 = .ok (.goto 4, 3) := by decide +kernel
theorem dX2_takes_38 : decode cX2_takes 38 = .ok (.iconst 0, 1) := by decide +kernel
theorem dX2_takes_39 : decode cX2_takes 39 = .ok (.istore 4, 2) := by decide +kernel
theorem dX2_takes_41 : decode cX2_takes 41 = .ok (.iload 4, 2) := by decide +kernel
theorem dX2_takes_43 : decode cX2_takes 43 = .ok (.ifCond .eq 29, 3) := by decide +kernel
theorem dX2_takes_46 : decode cX2_takes 46 = .ok (.iload_n 2, 1) := by decide +kernel
theorem dX2_takes_47 : decode cX2_takes 47 = .ok (.sipush 240, 3) := by decide +kernel
theorem dX2_takes_50 : decode cX2_takes 50 = .ok (.if_icmp .lt 10, 3) := by decide +kernel
theorem dX2_takes_53 : decode cX2_takes 53 = .ok (.iload_n 2, 1) := by decide +kernel
theorem dX2_takes_54 : decode cX2_takes 54 = .ok (.sipush 249, 3) := by decide +kernel
theorem dX2_takes_57 : decode cX2_takes 57 = .ok (.if_icmp .le 15, 3) := by decide +kernel
theorem dX2_takes_60 : decode cX2_takes 60 = .ok (.iload_n 2, 1) := by decide +kernel
theorem dX2_takes_61 : decode cX2_takes 61 = .ok (.bipush 75, 2) := by decide +kernel
theorem dX2_takes_63 : decode cX2_takes 63 = .ok (.if_icmp .eq 9, 3) := by decide +kernel
theorem dX2_takes_66 : decode cX2_takes 66 = .ok (.iload_n 2, 1) := by decide +kernel
theorem dX2_takes_67 : decode cX2_takes 67 = .ok (.bipush 96, 2) := by decide +kernel
theorem dX2_takes_69 : decode cX2_takes 69 = .ok (.if_icmp .ne 7, 3) := by decide +kernel
theorem dX2_takes_72 : decode cX2_takes 72 = .ok (.iconst 1, 1) := by decide +kernel
theorem dX2_takes_73 : decode cX2_takes 73 = .ok (.goto 4, 3) := by decide +kernel
theorem dX2_takes_76 : decode cX2_takes 76 = .ok (.iconst 0, 1) := by decide +kernel
theorem dX2_takes_77 : decode cX2_takes 77 = .ok (.ireturn, 1) := by decide +kernel
set_option maxRecDepth 20000 in
theorem ggX2_placeBehindTyped_X3_after : GoodIn wsX2_placeBehindTyped wsX3_after := goodIn_r _ [6, 7, 35, 36, 37, 38, 39, 40, 41, 42] (by decide +kernel) (by decide +kernel)
set_option maxRecDepth 20000 in
theorem gX2_placeBehindTyped_X3_after : GoodIn wsX2_placeBehindTyped (wsV RX2 58 RX3 yX3_after wsX3_after) := goodIn_app (goodIn_of _ (by decide +kernel)) ggX2_placeBehindTyped_X3_after
set_option maxRecDepth 20000 in
theorem ggX2_placeBehindTyped_X3_get : GoodIn wsX2_placeBehindTyped wsX3_get := goodIn_r _ [11, 12, 35, 36, 37, 38, 39, 40, 41, 42] (by decide +kernel) (by decide +kernel)
set_option maxRecDepth 20000 in
theorem gX2_placeBehindTyped_X3_get : GoodIn wsX2_placeBehindTyped (wsV RX2 61 RX3 yX3_get wsX3_get) := goodIn_app (goodIn_of _ (by decide +kernel)) ggX2_placeBehindTyped_X3_get
set_option maxRecDepth 20000 in
theorem ggX2_placeBehindTyped_X3_nextTabStop : GoodIn wsX2_placeBehindTyped wsX3_nextTabStop := goodIn_r _ [16, 7, 17, 18, 19, 5, 20, 21, 22, 23, 24, 25, 9, 10, 11, 12, 26, 27, 28, 29, 30, 3, 4, 6, 35, 36, 37, 38, 39, 40, 41, 42] (by decide +kernel) (by decide +kernel)
set_option maxRecDepth 20000 in
theorem gX2_placeBehindTyped_X3_nextTabStop : GoodIn wsX2_placeBehindTyped (wsV RX2 64 RX3 yX3_nextTabStop wsX3_nextTabStop) := goodIn_app (goodIn_of _ (by decide +kernel)) ggX2_placeBehindTyped_X3_nextTabStop
theorem dX2_placeBehindTyped_0 : decode cX2_placeBehindTyped 0 = .ok (.aload_n 0, 1) := by decide +kernel
theorem dX2_placeBehindTyped_1 : decode cX2_placeBehindTyped 1 = .ok (.getfield 9, 3) := by decide +kernel
theorem dX2_placeBehindTyped_4 : decode cX2_placeBehindTyped 4 = .ok (.iload_n 1, 1) := by decide +kernel
theorem dX2_placeBehindTyped_5 : decode cX2_placeBehindTyped 5 = .ok (.invokevirtual 58, 3) := by decide +kernel
theorem dX2_placeBehindTyped_8 : decode cX2_placeBehindTyped 8 = .ok (.istore_n 2, 1) := by decide +kernel
theorem dX2_placeBehindTyped_9 : decode cX2_placeBehindTyped 9 = .ok (.aload_n 0, 1) := by decide +kernel
theorem dX2_placeBehindTyped_10 : decode cX2_placeBehindTyped 10 = .ok (.getfield 9, 3) := by decide +kernel
theorem dX2_placeBehindTyped_13 : decode cX2_placeBehindTyped 13 = .ok (.iload_n 2, 1) := by decide +kernel
theorem dX2_placeBehindTyped_14 : decode cX2_placeBehindTyped 14 = .ok (.invokevirtual 61, 3) := by decide +kernel
theorem dX2_placeBehindTyped_17 : decode cX2_placeBehindTyped 17 = .ok (.istore_n 3, 1) := by decide +kernel
theorem dX2_placeBehindTyped_18 : decode cX2_placeBehindTyped 18 = .ok (.iload_n 3, 1) := by decide +kernel
theorem dX2_placeBehindTyped_19 : decode cX2_placeBehindTyped 19 = .ok (.sipush 256, 3) := by decide +kernel
theorem dX2_placeBehindTyped_22 : decode cX2_placeBehindTyped 22 = .ok (.if_icmp .ge 5, 3) := by decide +kernel
theorem dX2_placeBehindTyped_25 : decode cX2_placeBehindTyped 25 = .ok (.iload_n 2, 1) := by decide +kernel
theorem dX2_placeBehindTyped_26 : decode cX2_placeBehindTyped 26 = .ok (.ireturn, 1) := by decide +kernel
theorem dX2_placeBehindTyped_27 : decode cX2_placeBehindTyped 27 = .ok (.iload_n 3, 1) := by decide +kernel
theorem dX2_placeBehindTyped_28 : decode cX2_placeBehindTyped 28 = .ok (.bipush 48, 2) := by decide +kernel
theorem dX2_placeBehindTyped_30 : decode cX2_placeBehindTyped 30 = .ok (.iand, 1) := by decide +kernel
theorem dX2_placeBehindTyped_31 : decode cX2_placeBehindTyped 31 = .ok (.bipush 48, 2) := by decide +kernel
theorem dX2_placeBehindTyped_33 : decode cX2_placeBehindTyped 33 = .ok (.if_icmp .ne 7, 3) := by decide +kernel
theorem dX2_placeBehindTyped_36 : decode cX2_placeBehindTyped 36 = .ok (.iconst 1, 1) := by decide +kernel
theorem dX2_placeBehindTyped_37 : decode cX2_placeBehindTyped 37 = .ok (.goto 4, 3) := by decide +kernel
theorem dX2_placeBehindTyped_40 : decode cX2_placeBehindTyped 40 = .ok (.iconst 0, 1) := by decide +kernel
theorem dX2_placeBehindTyped_41 : decode cX2_placeBehindTyped 41 = .ok (.istore 4, 2) := by decide +kernel
theorem dX2_placeBehindTyped_43 : decode cX2_placeBehindTyped 43 = .ok (.iload 4, 2) := by decide +kernel
theorem dX2_placeBehindTyped_45 : decode cX2_placeBehindTyped 45 = .ok (.ifCond .eq 14, 3) := by decide +kernel
theorem dX2_placeBehindTyped_48 : decode cX2_placeBehindTyped 48 = .ok (.aload_n 0, 1) := by decide +kernel
theorem dX2_placeBehindTyped_49 : decode cX2_placeBehindTyped 49 = .ok (.getfield 9, 3) := by decide +kernel
theorem dX2_placeBehindTyped_52 : decode cX2_placeBehindTyped 52 = .ok (.iload_n 2, 1) := by decide +kernel
theorem dX2_placeBehindTyped_53 : decode cX2_placeBehindTyped 53 = .ok (.invokevirtual 64, 3) := by decide +kernel
theorem dX2_placeBehindTyped_56 : decode cX2_placeBehindTyped 56 = .ok (.goto 11, 3) := by decide +kernel
theorem dX2_placeBehindTyped_59 : decode cX2_placeBehindTyped 59 = .ok (.aload_n 0, 1) := by decide +kernel
theorem dX2_placeBehindTyped_60 : decode cX2_placeBehindTyped 60 = .ok (.getfield 9, 3) := by decide +kernel
theorem dX2_placeBehindTyped_63 : decode cX2_placeBehindTyped 63 = .ok (.iload_n 2, 1) := by decide +kernel
theorem dX2_placeBehindTyped_64 : decode cX2_placeBehindTyped 64 = .ok (.invokevirtual 58, 3) := by decide +kernel
theorem dX2_placeBehindTyped_67 : decode cX2_placeBehindTyped 67 = .ok (.ireturn, 1) := by decide +kernel
set_option maxRecDepth 20000 in
theorem ggX2_press_X2_byteSentBy : GoodIn wsX2_press wsX2_byteSentBy := goodIn_r _ [8, 9] (by decide +kernel) (by decide +kernel)
set_option maxRecDepth 20000 in
theorem gX2_press_X2_byteSentBy : GoodIn wsX2_press (va_wsS RX2 67 yX2_byteSentBy wsX2_byteSentBy) := goodIn_app (goodIn_of _ (by decide +kernel)) ggX2_press_X2_byteSentBy
set_option maxRecDepth 20000 in
theorem ggX2_press_X2_send : GoodIn wsX2_press wsX2_send := goodIn_r _ [13, 14, 15, 3, 2, 16, 17, 18, 19, 20, 21, 22, 23, 24, 25, 26, 27, 28, 29, 30, 31, 32, 33, 34, 35, 36, 37, 38, 39, 40, 41, 42, 43, 44, 45, 46, 47, 48, 49, 50, 51, 52, 53, 54, 55, 56, 57, 58, 59, 60, 61, 62, 63, 64, 65, 66, 67, 68, 69, 70, 71, 72, 73, 74, 75, 76, 77, 78, 79, 80, 81, 82, 83, 84, 85, 86, 87, 88, 89, 90, 91, 92, 93, 94, 95, 96, 97, 98, 99, 100, 101, 102, 103, 104, 105, 106, 107, 108, 109, 110, 111, 112, 113, 114, 115, 116, 209, 210, 211, 212, 221, 222, 223, 213, 214, 215, 216, 217, 218, 219, 220, 224, 225] (by decide +kernel) (by decide +kernel)
set_option maxRecDepth 20000 in
theorem gX2_press_X2_send : GoodIn wsX2_press (wsV RX2 70 RX2 yX2_send wsX2_send) := goodIn_app (goodIn_of _ (by decide +kernel)) ggX2_press_X2_send
set_option maxRecDepth 20000 in
theorem ggX2_press_X2_cursorMovedBy : GoodIn wsX2_press wsX2_cursorMovedBy := goodIn_r _ [120, 3, 4, 121, 122, 123, 124, 125, 77, 126, 88, 127, 128, 129, 130, 131, 132, 133, 134, 94, 75, 76, 78, 79, 135, 136, 137, 138, 95, 85, 86, 87, 139, 140, 141, 142, 143, 144, 145, 146, 147, 148, 149, 7, 150, 151, 152, 153, 154, 112, 155, 156, 157, 158, 159, 160, 161, 162, 93, 163, 164, 209, 210, 211, 212, 213, 214, 215, 216, 217, 218, 219, 220] (by decide +kernel) (by decide +kernel)
set_option maxRecDepth 20000 in
theorem gX2_press_X2_cursorMovedBy : GoodIn wsX2_press (wsV RX2 73 RX2 yX2_cursorMovedBy wsX2_cursorMovedBy) := goodIn_app (goodIn_of _ (by decide +kernel)) ggX2_press_X2_cursorMovedBy
set_option maxRecDepth 20000 in
theorem ggX2_press_X2_edit : GoodIn wsX2_press wsX2_edit := goodIn_r _ [168, 3, 14, 1, 4, 2, 169, 170, 171, 77, 172, 88, 113, 173, 174, 175, 176, 159, 160, 161, 162, 93, 94, 75, 76, 78, 79, 143, 144, 145, 146, 135, 136, 137, 138, 177, 178, 179, 180, 95, 85, 86, 87, 131, 132, 133, 134, 181, 182, 183, 184, 185, 156, 157, 158, 186, 187, 188, 19, 189, 21, 27, 28, 29, 30, 31, 32, 190, 191, 192, 193, 194, 90, 91, 92, 195, 196, 197, 198, 199, 200, 201, 202, 112, 105, 55, 56, 57, 203, 152, 153, 154, 204, 205, 206, 207, 208, 209, 210, 211, 212, 213, 214, 215, 216, 217, 218, 219, 220, 221, 222, 223, 224, 225] (by decide +kernel) (by decide +kernel)
set_option maxRecDepth 20000 in
theorem gX2_press_X2_edit : GoodIn wsX2_press (wsV RX2 76 RX2 yX2_edit wsX2_edit) := goodIn_app (goodIn_of _ (by decide +kernel)) ggX2_press_X2_edit
theorem dX2_press_0 : decode cX2_press 0 = .ok (.iload_n 1, 1) := by decide +kernel
theorem dX2_press_1 : decode cX2_press 1 = .ok (.invokestatic 67, 3) := by decide +kernel
theorem dX2_press_4 : decode cX2_press 4 = .ok (.istore_n 2, 1) := by decide +kernel
theorem dX2_press_5 : decode cX2_press 5 = .ok (.iload_n 2, 1) := by decide +kernel
theorem dX2_press_6 : decode cX2_press 6 = .ok (.iconst (-1), 1) := by decide +kernel
theorem dX2_press_7 : decode cX2_press 7 = .ok (.if_icmp .ne 17, 3) := by decide +kernel
theorem dX2_press_10 : decode cX2_press 10 = .ok (.iload_n 1, 1) := by decide +kernel
theorem dX2_press_11 : decode cX2_press 11 = .ok (.bipush 40, 2) := by decide +kernel
theorem dX2_press_13 : decode cX2_press 13 = .ok (.if_icmp .lt 9, 3) := by decide +kernel
theorem dX2_press_16 : decode cX2_press 16 = .ok (.iload_n 1, 1) := by decide +kernel
theorem dX2_press_17 : decode cX2_press 17 = .ok (.bipush 52, 2) := by decide +kernel
theorem dX2_press_19 : decode cX2_press 19 = .ok (.if_icmp .le 5, 3) := by decide +kernel
theorem dX2_press_22 : decode cX2_press 22 = .ok (.iconst (-1), 1) := by decide +kernel
theorem dX2_press_23 : decode cX2_press 23 = .ok (.ireturn, 1) := by decide +kernel
theorem dX2_press_24 : decode cX2_press 24 = .ok (.iload_n 1, 1) := by decide +kernel
theorem dX2_press_25 : decode cX2_press 25 = .ok (.bipush 51, 2) := by decide +kernel
theorem dX2_press_27 : decode cX2_press 27 = .ok (.if_icmp .ne 15, 3) := by decide +kernel
theorem dX2_press_30 : decode cX2_press 30 = .ok (.aload_n 0, 1) := by decide +kernel
theorem dX2_press_31 : decode cX2_press 31 = .ok (.iconst 0, 1) := by decide +kernel
theorem dX2_press_32 : decode cX2_press 32 = .ok (.putfield 23, 3) := by decide +kernel
theorem dX2_press_35 : decode cX2_press 35 = .ok (.aload_n 0, 1) := by decide +kernel
theorem dX2_press_36 : decode cX2_press 36 = .ok (.iconst 0, 1) := by decide +kernel
theorem dX2_press_37 : decode cX2_press 37 = .ok (.putfield 19, 3) := by decide +kernel
theorem dX2_press_40 : decode cX2_press 40 = .ok (.iconst 1, 1) := by decide +kernel
theorem dX2_press_41 : decode cX2_press 41 = .ok (.ireturn, 1) := by decide +kernel
theorem dX2_press_42 : decode cX2_press 42 = .ok (.aload_n 0, 1) := by decide +kernel
theorem dX2_press_43 : decode cX2_press 43 = .ok (.getfield 19, 3) := by decide +kernel
theorem dX2_press_46 : decode cX2_press 46 = .ok (.ifCond .eq 5, 3) := by decide +kernel
theorem dX2_press_49 : decode cX2_press 49 = .ok (.iconst 0, 1) := by decide +kernel
theorem dX2_press_50 : decode cX2_press 50 = .ok (.ireturn, 1) := by decide +kernel
theorem dX2_press_51 : decode cX2_press 51 = .ok (.iload_n 2, 1) := by decide +kernel
theorem dX2_press_52 : decode cX2_press 52 = .ok (.iconst (-1), 1) := by decide +kernel
theorem dX2_press_53 : decode cX2_press 53 = .ok (.if_icmp .eq 10, 3) := by decide +kernel
theorem dX2_press_56 : decode cX2_press 56 = .ok (.aload_n 0, 1) := by decide +kernel
theorem dX2_press_57 : decode cX2_press 57 = .ok (.iload_n 2, 1) := by decide +kernel
theorem dX2_press_58 : decode cX2_press 58 = .ok (.invokevirtual 70, 3) := by decide +kernel
theorem dX2_press_61 : decode cX2_press 61 = .ok (.iconst 1, 1) := by decide +kernel
theorem dX2_press_62 : decode cX2_press 62 = .ok (.ireturn, 1) := by decide +kernel
theorem dX2_press_63 : decode cX2_press 63 = .ok (.iload_n 1, 1) := by decide +kernel
theorem dX2_press_64 : decode cX2_press 64 = .ok (.bipush 47, 2) := by decide +kernel
theorem dX2_press_66 : decode cX2_press 66 = .ok (.if_icmp .gt 17, 3) := by decide +kernel
theorem dX2_press_69 : decode cX2_press 69 = .ok (.aload_n 0, 1) := by decide +kernel
theorem dX2_press_70 : decode cX2_press 70 = .ok (.getfield 9, 3) := by decide +kernel
theorem dX2_press_73 : decode cX2_press 73 = .ok (.aload_n 0, 1) := by decide +kernel
theorem dX2_press_74 : decode cX2_press 74 = .ok (.iload_n 1, 1) := by decide +kernel
theorem dX2_press_75 : decode cX2_press 75 = .ok (.invokevirtual 73, 3) := by decide +kernel
theorem dX2_press_78 : decode cX2_press 78 = .ok (.putfield 26, 3) := by decide +kernel
theorem dX2_press_81 : decode cX2_press 81 = .ok (.iconst 1, 1) := by decide +kernel
theorem dX2_press_82 : decode cX2_press 82 = .ok (.ireturn, 1) := by decide +kernel
theorem dX2_press_83 : decode cX2_press 83 = .ok (.aload_n 0, 1) := by decide +kernel
theorem dX2_press_84 : decode cX2_press 84 = .ok (.iload_n 1, 1) := by decide +kernel
theorem dX2_press_85 : decode cX2_press 85 = .ok (.invokevirtual 76, 3) := by decide +kernel
theorem dX2_press_88 : decode cX2_press 88 = .ok (.ireturn, 1) := by decide +kernel
theorem dX2_byteSentBy_0 : decode cX2_byteSentBy 0 = .ok (.iload_n 0, 1) := by decide +kernel
theorem dX2_byteSentBy_1 : decode cX2_byteSentBy 1 = .ok (.tableswitch 50 1 5 #[35, 38, 41, 44, 47], 35) := by decide +kernel
theorem dX2_byteSentBy_36 : decode cX2_byteSentBy 36 = .ok (.bipush 125, 2) := by decide +kernel
theorem dX2_byteSentBy_38 : decode cX2_byteSentBy 38 = .ok (.ireturn, 1) := by decide +kernel
theorem dX2_byteSentBy_39 : decode cX2_byteSentBy 39 = .ok (.bipush 109, 2) := by decide +kernel
theorem dX2_byteSentBy_41 : decode cX2_byteSentBy 41 = .ok (.ireturn, 1) := by decide +kernel
theorem dX2_byteSentBy_42 : decode cX2_byteSentBy 42 = .ok (.bipush 108, 2) := by decide +kernel
theorem dX2_byteSentBy_44 : decode cX2_byteSentBy 44 = .ok (.ireturn, 1) := by decide +kernel
theorem dX2_byteSentBy_45 : decode cX2_byteSentBy 45 = .ok (.bipush 110, 2) := by decide +kernel
theorem dX2_byteSentBy_47 : decode cX2_byteSentBy 47 = .ok (.ireturn, 1) := by decide +kernel
theorem dX2_byteSentBy_48 : decode cX2_byteSentBy 48 = .ok (.bipush 107, 2) := by decide +kernel
theorem dX2_byteSentBy_50 : decode cX2_byteSentBy 50 = .ok (.ireturn, 1) := by decide +kernel
theorem dX2_byteSentBy_51 : decode cX2_byteSentBy 51 = .ok (.iload_n 0, 1) := by decide +kernel
theorem dX2_byteSentBy_52 : decode cX2_byteSentBy 52 = .ok (.bipush 11, 2) := by decide +kernel
theorem dX2_byteSentBy_54 : decode cX2_byteSentBy 54 = .ok (.if_icmp .lt 14, 3) := by decide +kernel
theorem dX2_byteSentBy_57 : decode cX2_byteSentBy 57 = .ok (.iload_n 0, 1) := by decide +kernel
theorem dX2_byteSentBy_58 : decode cX2_byteSentBy 58 = .ok (.bipush 11, 2) := by decide +kernel
theorem dX2_byteSentBy_60 : decode cX2_byteSentBy 60 = .ok (.getstatic 79, 3) := by decide +kernel
theorem dX2_byteSentBy_63 : decode cX2_byteSentBy 63 = .ok (.arraylength, 1) := by decide +kernel
theorem dX2_byteSentBy_64 : decode cX2_byteSentBy 64 = .ok (.iadd, 1) := by decide +kernel
theorem dX2_byteSentBy_65 : decode cX2_byteSentBy 65 = .ok (.if_icmp .lt 5, 3) := by decide +kernel
theorem dX2_byteSentBy_68 : decode cX2_byteSentBy 68 = .ok (.iconst (-1), 1) := by decide +kernel
theorem dX2_byteSentBy_69 : decode cX2_byteSentBy 69 = .ok (.ireturn, 1) := by decide +kernel
theorem dX2_byteSentBy_70 : decode cX2_byteSentBy 70 = .ok (.getstatic 79, 3) := by decide +kernel
theorem dX2_byteSentBy_73 : decode cX2_byteSentBy 73 = .ok (.iload_n 0, 1) := by decide +kernel
theorem dX2_byteSentBy_74 : decode cX2_byteSentBy 74 = .ok (.bipush 11, 2) := by decide +kernel
theorem dX2_byteSentBy_76 : decode cX2_byteSentBy 76 = .ok (.isub, 1) := by decide +kernel
theorem dX2_byteSentBy_77 : decode cX2_byteSentBy 77 = .ok (.iaload, 1) := by decide +kernel
theorem dX2_byteSentBy_78 : decode cX2_byteSentBy 78 = .ok (.ireturn, 1) := by decide +kernel
set_option maxRecDepth 20000 in
theorem ggX2_send_X4_compose : GoodIn wsX2_send wsX4_compose := goodIn_r _ [9, 10, 11, 12, 13, 14, 15, 16, 17, 18, 19, 20, 21, 22, 23, 24, 8, 25, 26, 27, 28, 29, 30, 31, 32, 33, 34, 35, 36, 37, 38, 39, 40, 41, 42, 43, 44, 45, 46, 47, 48, 49, 50, 51, 52, 53, 54, 55, 56, 57, 58, 59, 60, 61, 62, 63, 64, 65, 66, 67, 68, 69, 70, 71, 72, 73, 74, 75, 76, 77, 78, 79, 80, 81, 82, 83, 84, 85, 86, 87, 88, 110, 111, 112, 113, 114, 115, 116, 117, 118, 119, 120, 121, 122] (by decide +kernel) (by decide +kernel)
set_option maxRecDepth 20000 in
theorem gX2_send_X4_compose : GoodIn wsX2_send (wsV RX2 88 RX4 yX4_compose wsX4_compose) := goodIn_app (goodIn_of _ (by decide +kernel)) ggX2_send_X4_compose
set_option maxRecDepth 20000 in
theorem ggX2_send_X3_eraseToSmall : GoodIn wsX2_send wsX3_eraseToSmall := goodIn_r _ [92, 93, 94, 44, 45, 46, 95, 96, 97, 98, 66, 99, 100, 101, 77, 68, 82, 102, 103, 104, 34, 105, 113, 114, 115, 116, 117, 118, 119, 120] (by decide +kernel) (by decide +kernel)
set_option maxRecDepth 20000 in
theorem gX2_send_X3_eraseToSmall : GoodIn wsX2_send (wsV RX2 92 RX3 yX3_eraseToSmall wsX3_eraseToSmall) := goodIn_app (goodIn_of _ (by decide +kernel)) ggX2_send_X3_eraseToSmall
theorem dX2_send_0 : decode cX2_send 0 = .ok (.aload_n 0, 1) := by decide +kernel
theorem dX2_send_1 : decode cX2_send 1 = .ok (.getfield 15, 3) := by decide +kernel
theorem dX2_send_4 : decode cX2_send 4 = .ok (.iload_n 1, 1) := by decide +kernel
theorem dX2_send_5 : decode cX2_send 5 = .ok (.putfield 83, 3) := by decide +kernel
theorem dX2_send_8 : decode cX2_send 8 = .ok (.aload_n 0, 1) := by decide +kernel
theorem dX2_send_9 : decode cX2_send 9 = .ok (.getfield 15, 3) := by decide +kernel
theorem dX2_send_12 : decode cX2_send 12 = .ok (.iconst 0, 1) := by decide +kernel
theorem dX2_send_13 : decode cX2_send 13 = .ok (.invokevirtual 88, 3) := by decide +kernel
theorem dX2_send_16 : decode cX2_send 16 = .ok (.iload_n 1, 1) := by decide +kernel
theorem dX2_send_17 : decode cX2_send 17 = .ok (.bipush 109, 2) := by decide +kernel
theorem dX2_send_19 : decode cX2_send 19 = .ok (.if_icmp .ne 10, 3) := by decide +kernel
theorem dX2_send_22 : decode cX2_send 22 = .ok (.aload_n 0, 1) := by decide +kernel
theorem dX2_send_23 : decode cX2_send 23 = .ok (.getfield 9, 3) := by decide +kernel
theorem dX2_send_26 : decode cX2_send 26 = .ok (.invokevirtual 92, 3) := by decide +kernel
theorem dX2_send_29 : decode cX2_send 29 = .ok (.aload_n 0, 1) := by decide +kernel
theorem dX2_send_30 : decode cX2_send 30 = .ok (.iconst 1, 1) := by decide +kernel
theorem dX2_send_31 : decode cX2_send 31 = .ok (.putfield 19, 3) := by decide +kernel
theorem dX2_send_34 : decode cX2_send 34 = .ok (.return_, 1) := by decide +kernel
set_option maxRecDepth 20000 in
theorem ggX2_cursorMovedBy_X3_nextTabStop : GoodIn wsX2_cursorMovedBy wsX3_nextTabStop := goodIn_r _ [9, 10, 11, 12, 13, 8, 14, 15, 16, 17, 18, 19, 20, 21, 22, 23, 24, 25, 26, 27, 28, 29, 30, 31, 65, 66, 67, 68, 69, 70, 71, 72] (by decide +kernel) (by decide +kernel)
set_option maxRecDepth 20000 in
theorem gX2_cursorMovedBy_X3_nextTabStop : GoodIn wsX2_cursorMovedBy (wsV RX2 64 RX3 yX3_nextTabStop wsX3_nextTabStop) := goodIn_app (goodIn_of _ (by decide +kernel)) ggX2_cursorMovedBy_X3_nextTabStop
set_option maxRecDepth 20000 in
theorem ggX2_cursorMovedBy_X3_previousTabStop : GoodIn wsX2_cursorMovedBy wsX3_previousTabStop := goodIn_r _ [35, 10, 36, 37, 38, 8, 39, 11, 12, 13, 14, 15, 16, 17, 18, 19, 20, 21, 22, 23, 24, 25, 26, 27, 28, 29, 30, 31, 65, 66, 67, 68, 69, 70, 71, 72] (by decide +kernel) (by decide +kernel)
set_option maxRecDepth 20000 in
theorem gX2_cursorMovedBy_X3_previousTabStop : GoodIn wsX2_cursorMovedBy (wsV RX2 95 RX3 yX3_previousTabStop wsX3_previousTabStop) := goodIn_app (goodIn_of _ (by decide +kernel)) ggX2_cursorMovedBy_X3_previousTabStop
set_option maxRecDepth 20000 in
theorem ggX2_cursorMovedBy_X2_rowDown : GoodIn wsX2_cursorMovedBy wsX2_rowDown := goodIn_r _ [44, 1, 4, 3, 61, 62, 63, 64, 65, 66, 67, 68, 69, 70, 71, 72] (by decide +kernel) (by decide +kernel)
set_option maxRecDepth 20000 in
theorem gX2_cursorMovedBy_X2_rowDown : GoodIn wsX2_cursorMovedBy (wsV RX2 98 RX2 yX2_rowDown wsX2_rowDown) := goodIn_app (goodIn_of _ (by decide +kernel)) ggX2_cursorMovedBy_X2_rowDown
set_option maxRecDepth 20000 in
theorem ggX2_cursorMovedBy_X3_startOfRow : GoodIn wsX2_cursorMovedBy wsX3_startOfRow := goodIn_r _ [48, 49, 65, 66, 67, 68, 69, 70, 71, 72] (by decide +kernel) (by decide +kernel)
set_option maxRecDepth 20000 in
theorem gX2_cursorMovedBy_X3_startOfRow : GoodIn wsX2_cursorMovedBy (wsV RX2 101 RX3 yX3_startOfRow wsX3_startOfRow) := goodIn_app (goodIn_of _ (by decide +kernel)) ggX2_cursorMovedBy_X3_startOfRow
set_option maxRecDepth 20000 in
theorem ggX2_cursorMovedBy_X3_firstToTypeIn : GoodIn wsX2_cursorMovedBy wsX3_firstToTypeIn := goodIn_r _ [53, 10, 54, 55, 56, 8, 57, 58, 19, 20, 21, 22, 23, 36, 37, 38, 39, 24, 25, 26, 27, 28, 29, 30, 31, 65, 66, 67, 68, 69, 70, 71, 72] (by decide +kernel) (by decide +kernel)
set_option maxRecDepth 20000 in
theorem gX2_cursorMovedBy_X3_firstToTypeIn : GoodIn wsX2_cursorMovedBy (wsV RX2 104 RX3 yX3_firstToTypeIn wsX3_firstToTypeIn) := goodIn_app (goodIn_of _ (by decide +kernel)) ggX2_cursorMovedBy_X3_firstToTypeIn
set_option maxRecDepth 20000 in
theorem ggX2_cursorMovedBy_X3_before : GoodIn wsX2_cursorMovedBy wsX3_before := goodIn_r _ [39, 10, 65, 66, 67, 68, 69, 70, 71, 72] (by decide +kernel) (by decide +kernel)
set_option maxRecDepth 20000 in
theorem gX2_cursorMovedBy_X3_before : GoodIn wsX2_cursorMovedBy (wsV RX2 110 RX3 yX3_before wsX3_before) := goodIn_app (goodIn_of _ (by decide +kernel)) ggX2_cursorMovedBy_X3_before
set_option maxRecDepth 20000 in
theorem ggX2_cursorMovedBy_X3_after : GoodIn wsX2_cursorMovedBy wsX3_after := goodIn_r _ [31, 10, 65, 66, 67, 68, 69, 70, 71, 72] (by decide +kernel) (by decide +kernel)
set_option maxRecDepth 20000 in
theorem gX2_cursorMovedBy_X3_after : GoodIn wsX2_cursorMovedBy (wsV RX2 58 RX3 yX3_after wsX3_after) := goodIn_app (goodIn_of _ (by decide +kernel)) ggX2_cursorMovedBy_X3_after
theorem dX2_cursorMovedBy_0 : decode cX2_cursorMovedBy 0 = .ok (.aload_n 0, 1) := by decide +kernel
theorem dX2_cursorMovedBy_1 : decode cX2_cursorMovedBy 1 = .ok (.getfield 9, 3) := by decide +kernel
theorem dX2_cursorMovedBy_4 : decode cX2_cursorMovedBy 4 = .ok (.getfield 26, 3) := by decide +kernel
theorem dX2_cursorMovedBy_7 : decode cX2_cursorMovedBy 7 = .ok (.istore_n 2, 1) := by decide +kernel
theorem dX2_cursorMovedBy_8 : decode cX2_cursorMovedBy 8 = .ok (.iload_n 1, 1) := by decide +kernel
theorem dX2_cursorMovedBy_9 : decode cX2_cursorMovedBy 9 = .ok (.tableswitch 157 40 46 #[43, 52, 61, 81, 98, 107, 116], 43) := by decide +kernel
theorem dX2_cursorMovedBy_52 : decode cX2_cursorMovedBy 52 = .ok (.aload_n 0, 1) := by decide +kernel
theorem dX2_cursorMovedBy_53 : decode cX2_cursorMovedBy 53 = .ok (.getfield 9, 3) := by decide +kernel
theorem dX2_cursorMovedBy_56 : decode cX2_cursorMovedBy 56 = .ok (.iload_n 2, 1) := by decide +kernel
theorem dX2_cursorMovedBy_57 : decode cX2_cursorMovedBy 57 = .ok (.invokevirtual 64, 3) := by decide +kernel
theorem dX2_cursorMovedBy_60 : decode cX2_cursorMovedBy 60 = .ok (.ireturn, 1) := by decide +kernel
theorem dX2_cursorMovedBy_61 : decode cX2_cursorMovedBy 61 = .ok (.aload_n 0, 1) := by decide +kernel
theorem dX2_cursorMovedBy_62 : decode cX2_cursorMovedBy 62 = .ok (.getfield 9, 3) := by decide +kernel
theorem dX2_cursorMovedBy_65 : decode cX2_cursorMovedBy 65 = .ok (.iload_n 2, 1) := by decide +kernel
theorem dX2_cursorMovedBy_66 : decode cX2_cursorMovedBy 66 = .ok (.invokevirtual 95, 3) := by decide +kernel
theorem dX2_cursorMovedBy_69 : decode cX2_cursorMovedBy 69 = .ok (.ireturn, 1) := by decide +kernel
theorem dX2_cursorMovedBy_70 : decode cX2_cursorMovedBy 70 = .ok (.aload_n 0, 1) := by decide +kernel
theorem dX2_cursorMovedBy_71 : decode cX2_cursorMovedBy 71 = .ok (.getfield 9, 3) := by decide +kernel
theorem dX2_cursorMovedBy_74 : decode cX2_cursorMovedBy 74 = .ok (.aload_n 0, 1) := by decide +kernel
theorem dX2_cursorMovedBy_75 : decode cX2_cursorMovedBy 75 = .ok (.getfield 9, 3) := by decide +kernel
theorem dX2_cursorMovedBy_78 : decode cX2_cursorMovedBy 78 = .ok (.aload_n 0, 1) := by decide +kernel
theorem dX2_cursorMovedBy_79 : decode cX2_cursorMovedBy 79 = .ok (.iload_n 2, 1) := by decide +kernel
theorem dX2_cursorMovedBy_80 : decode cX2_cursorMovedBy 80 = .ok (.invokevirtual 98, 3) := by decide +kernel
theorem dX2_cursorMovedBy_83 : decode cX2_cursorMovedBy 83 = .ok (.invokevirtual 101, 3) := by decide +kernel
theorem dX2_cursorMovedBy_86 : decode cX2_cursorMovedBy 86 = .ok (.invokevirtual 104, 3) := by decide +kernel
theorem dX2_cursorMovedBy_89 : decode cX2_cursorMovedBy 89 = .ok (.ireturn, 1) := by decide +kernel
theorem dX2_cursorMovedBy_90 : decode cX2_cursorMovedBy 90 = .ok (.aload_n 0, 1) := by decide +kernel
theorem dX2_cursorMovedBy_91 : decode cX2_cursorMovedBy 91 = .ok (.getfield 9, 3) := by decide +kernel
theorem dX2_cursorMovedBy_94 : decode cX2_cursorMovedBy 94 = .ok (.aload_n 0, 1) := by decide +kernel
theorem dX2_cursorMovedBy_95 : decode cX2_cursorMovedBy 95 = .ok (.getfield 9, 3) := by decide +kernel
theorem dX2_cursorMovedBy_98 : decode cX2_cursorMovedBy 98 = .ok (.getfield 107, 3) := by decide +kernel
theorem dX2_cursorMovedBy_101 : decode cX2_cursorMovedBy 101 = .ok (.iconst 1, 1) := by decide +kernel
theorem dX2_cursorMovedBy_102 : decode cX2_cursorMovedBy 102 = .ok (.isub, 1) := by decide +kernel
theorem dX2_cursorMovedBy_103 : decode cX2_cursorMovedBy 103 = .ok (.invokevirtual 64, 3) := by decide +kernel
theorem dX2_cursorMovedBy_106 : decode cX2_cursorMovedBy 106 = .ok (.ireturn, 1) := by decide +kernel
theorem dX2_cursorMovedBy_107 : decode cX2_cursorMovedBy 107 = .ok (.aload_n 0, 1) := by decide +kernel
theorem dX2_cursorMovedBy_108 : decode cX2_cursorMovedBy 108 = .ok (.getfield 9, 3) := by decide +kernel
theorem dX2_cursorMovedBy_111 : decode cX2_cursorMovedBy 111 = .ok (.iload_n 2, 1) := by decide +kernel
theorem dX2_cursorMovedBy_112 : decode cX2_cursorMovedBy 112 = .ok (.invokevirtual 110, 3) := by decide +kernel
theorem dX2_cursorMovedBy_115 : decode cX2_cursorMovedBy 115 = .ok (.ireturn, 1) := by decide +kernel
theorem dX2_cursorMovedBy_116 : decode cX2_cursorMovedBy 116 = .ok (.aload_n 0, 1) := by decide +kernel
theorem dX2_cursorMovedBy_117 : decode cX2_cursorMovedBy 117 = .ok (.getfield 9, 3) := by decide +kernel
theorem dX2_cursorMovedBy_120 : decode cX2_cursorMovedBy 120 = .ok (.iload_n 2, 1) := by decide +kernel
theorem dX2_cursorMovedBy_121 : decode cX2_cursorMovedBy 121 = .ok (.invokevirtual 58, 3) := by decide +kernel
theorem dX2_cursorMovedBy_124 : decode cX2_cursorMovedBy 124 = .ok (.ireturn, 1) := by decide +kernel
theorem dX2_cursorMovedBy_125 : decode cX2_cursorMovedBy 125 = .ok (.iload_n 2, 1) := by decide +kernel
theorem dX2_cursorMovedBy_126 : decode cX2_cursorMovedBy 126 = .ok (.aload_n 0, 1) := by decide +kernel
theorem dX2_cursorMovedBy_127 : decode cX2_cursorMovedBy 127 = .ok (.getfield 9, 3) := by decide +kernel
theorem dX2_cursorMovedBy_130 : decode cX2_cursorMovedBy 130 = .ok (.getfield 113, 3) := by decide +kernel
theorem dX2_cursorMovedBy_133 : decode cX2_cursorMovedBy 133 = .ok (.if_icmp .ge 23, 3) := by decide +kernel
theorem dX2_cursorMovedBy_136 : decode cX2_cursorMovedBy 136 = .ok (.iload_n 2, 1) := by decide +kernel
theorem dX2_cursorMovedBy_137 : decode cX2_cursorMovedBy 137 = .ok (.aload_n 0, 1) := by decide +kernel
theorem dX2_cursorMovedBy_138 : decode cX2_cursorMovedBy 138 = .ok (.getfield 9, 3) := by decide +kernel
theorem dX2_cursorMovedBy_141 : decode cX2_cursorMovedBy 141 = .ok (.getfield 113, 3) := by decide +kernel
theorem dX2_cursorMovedBy_144 : decode cX2_cursorMovedBy 144 = .ok (.isub, 1) := by decide +kernel
theorem dX2_cursorMovedBy_145 : decode cX2_cursorMovedBy 145 = .ok (.aload_n 0, 1) := by decide +kernel
theorem dX2_cursorMovedBy_146 : decode cX2_cursorMovedBy 146 = .ok (.getfield 9, 3) := by decide +kernel
theorem dX2_cursorMovedBy_149 : decode cX2_cursorMovedBy 149 = .ok (.getfield 107, 3) := by decide +kernel
theorem dX2_cursorMovedBy_152 : decode cX2_cursorMovedBy 152 = .ok (.iadd, 1) := by decide +kernel
theorem dX2_cursorMovedBy_153 : decode cX2_cursorMovedBy 153 = .ok (.goto 12, 3) := by decide +kernel
theorem dX2_cursorMovedBy_156 : decode cX2_cursorMovedBy 156 = .ok (.iload_n 2, 1) := by decide +kernel
theorem dX2_cursorMovedBy_157 : decode cX2_cursorMovedBy 157 = .ok (.aload_n 0, 1) := by decide +kernel
theorem dX2_cursorMovedBy_158 : decode cX2_cursorMovedBy 158 = .ok (.getfield 9, 3) := by decide +kernel
theorem dX2_cursorMovedBy_161 : decode cX2_cursorMovedBy 161 = .ok (.getfield 113, 3) := by decide +kernel
theorem dX2_cursorMovedBy_164 : decode cX2_cursorMovedBy 164 = .ok (.isub, 1) := by decide +kernel
theorem dX2_cursorMovedBy_165 : decode cX2_cursorMovedBy 165 = .ok (.ireturn, 1) := by decide +kernel
theorem dX2_cursorMovedBy_166 : decode cX2_cursorMovedBy 166 = .ok (.aload_n 0, 1) := by decide +kernel
theorem dX2_cursorMovedBy_167 : decode cX2_cursorMovedBy 167 = .ok (.iload_n 2, 1) := by decide +kernel
theorem dX2_cursorMovedBy_168 : decode cX2_cursorMovedBy 168 = .ok (.invokevirtual 98, 3) := by decide +kernel
theorem dX2_cursorMovedBy_171 : decode cX2_cursorMovedBy 171 = .ok (.ireturn, 1) := by decide +kernel
theorem dX2_rowDown_0 : decode cX2_rowDown 0 = .ok (.iload_n 1, 1) := by decide +kernel
theorem dX2_rowDown_1 : decode cX2_rowDown 1 = .ok (.aload_n 0, 1) := by decide +kernel
theorem dX2_rowDown_2 : decode cX2_rowDown 2 = .ok (.getfield 9, 3) := by decide +kernel
theorem dX2_rowDown_5 : decode cX2_rowDown 5 = .ok (.getfield 113, 3) := by decide +kernel
theorem dX2_rowDown_8 : decode cX2_rowDown 8 = .ok (.iadd, 1) := by decide +kernel
theorem dX2_rowDown_9 : decode cX2_rowDown 9 = .ok (.istore_n 2, 1) := by decide +kernel
theorem dX2_rowDown_10 : decode cX2_rowDown 10 = .ok (.iload_n 2, 1) := by decide +kernel
theorem dX2_rowDown_11 : decode cX2_rowDown 11 = .ok (.aload_n 0, 1) := by decide +kernel
theorem dX2_rowDown_12 : decode cX2_rowDown 12 = .ok (.getfield 9, 3) := by decide +kernel
theorem dX2_rowDown_15 : decode cX2_rowDown 15 = .ok (.getfield 107, 3) := by decide +kernel
theorem dX2_rowDown_18 : decode cX2_rowDown 18 = .ok (.if_icmp .lt 15, 3) := by decide +kernel
theorem dX2_rowDown_21 : decode cX2_rowDown 21 = .ok (.iload_n 2, 1) := by decide +kernel
theorem dX2_rowDown_22 : decode cX2_rowDown 22 = .ok (.aload_n 0, 1) := by decide +kernel
theorem dX2_rowDown_23 : decode cX2_rowDown 23 = .ok (.getfield 9, 3) := by decide +kernel
theorem dX2_rowDown_26 : decode cX2_rowDown 26 = .ok (.getfield 107, 3) := by decide +kernel
theorem dX2_rowDown_29 : decode cX2_rowDown 29 = .ok (.isub, 1) := by decide +kernel
theorem dX2_rowDown_30 : decode cX2_rowDown 30 = .ok (.goto 4, 3) := by decide +kernel
theorem dX2_rowDown_33 : decode cX2_rowDown 33 = .ok (.iload_n 2, 1) := by decide +kernel
theorem dX2_rowDown_34 : decode cX2_rowDown 34 = .ok (.ireturn, 1) := by decide +kernel
set_option maxRecDepth 20000 in
theorem ggX2_edit_X3_eraseWhatIsNotProtected : GoodIn wsX2_edit wsX3_eraseWhatIsNotProtected := goodIn_r _ [10, 11, 12, 13, 14, 15, 9, 16, 17, 18, 19, 20, 21, 22, 23, 24, 25, 26, 27, 28, 29, 30, 31, 32, 33, 34, 35, 36, 37, 38, 39, 40, 41, 42, 43, 44, 45, 46, 47, 48, 49, 50, 51, 52, 53, 54, 101, 102, 103, 104, 105, 106, 107, 108] (by decide +kernel) (by decide +kernel)
set_option maxRecDepth 20000 in
theorem gX2_edit_X3_eraseWhatIsNotProtected : GoodIn wsX2_edit (wsV RX2 116 RX3 yX3_eraseWhatIsNotProtected wsX3_eraseWhatIsNotProtected) := goodIn_app (goodIn_of _ (by decide +kernel)) ggX2_edit_X3_eraseWhatIsNotProtected
set_option maxRecDepth 20000 in
theorem ggX2_edit_X4_drop : GoodIn wsX2_edit wsX4_drop := goodIn_r _ [59, 60, 61, 62, 63, 64, 65, 66, 109, 110, 111, 112, 113] (by decide +kernel) (by decide +kernel)
set_option maxRecDepth 20000 in
theorem gX2_edit_X4_drop : GoodIn wsX2_edit (wsV RX2 119 RX4 yX4_drop wsX4_drop) := goodIn_app (goodIn_of _ (by decide +kernel)) ggX2_edit_X4_drop
set_option maxRecDepth 20000 in
theorem ggX2_edit_X3_mayBeTypedIn : GoodIn wsX2_edit wsX3_mayBeTypedIn := goodIn_r _ [70, 22, 23, 24, 9, 25, 26, 17, 18, 19, 20, 21, 11, 27, 28, 29, 30, 31, 32, 33, 34, 101, 102, 103, 104, 105, 106, 107, 108] (by decide +kernel) (by decide +kernel)
set_option maxRecDepth 20000 in
theorem gX2_edit_X3_mayBeTypedIn : GoodIn wsX2_edit (wsV RX2 52 RX3 yX3_mayBeTypedIn wsX3_mayBeTypedIn) := goodIn_app (goodIn_of _ (by decide +kernel)) ggX2_edit_X3_mayBeTypedIn
set_option maxRecDepth 20000 in
theorem ggX2_edit_X3_cellsToFieldEnd : GoodIn wsX2_edit wsX3_cellsToFieldEnd := goodIn_r _ [74, 21, 11, 22, 23, 24, 9, 25, 26, 39, 40, 41, 42, 101, 102, 103, 104, 105, 106, 107, 108] (by decide +kernel) (by decide +kernel)
set_option maxRecDepth 20000 in
theorem gX2_edit_X3_cellsToFieldEnd : GoodIn wsX2_edit (wsV RX2 122 RX3 yX3_cellsToFieldEnd wsX3_cellsToFieldEnd) := goodIn_app (goodIn_of _ (by decide +kernel)) ggX2_edit_X3_cellsToFieldEnd
set_option maxRecDepth 20000 in
theorem ggX2_edit_X3_fill : GoodIn wsX2_edit wsX3_fill := goodIn_r _ [78, 35, 36, 37, 9, 38, 26, 21, 39, 40, 41, 42, 11, 101, 102, 103, 104, 105, 106, 107, 108] (by decide +kernel) (by decide +kernel)
set_option maxRecDepth 20000 in
theorem gX2_edit_X3_fill : GoodIn wsX2_edit (wsV RX2 125 RX3 yX3_fill wsX3_fill) := goodIn_app (goodIn_of _ (by decide +kernel)) ggX2_edit_X3_fill
set_option maxRecDepth 20000 in
theorem ggX2_edit_X3_remove : GoodIn wsX2_edit wsX3_remove := goodIn_r _ [82, 83, 84, 85, 86, 87, 88, 89, 90, 9, 91, 92, 72, 73, 74, 21, 11, 22, 23, 24, 25, 26, 39, 40, 41, 42, 35, 36, 37, 38, 101, 102, 103, 104, 105, 106, 107, 108] (by decide +kernel) (by decide +kernel)
set_option maxRecDepth 20000 in
theorem gX2_edit_X3_remove : GoodIn wsX2_edit (wsV RX2 129 RX3 yX3_remove wsX3_remove) := goodIn_app (goodIn_of _ (by decide +kernel)) ggX2_edit_X3_remove
set_option maxRecDepth 20000 in
theorem ggX2_edit_X3_markModified : GoodIn wsX2_edit wsX3_markModified := goodIn_r _ [96, 17, 18, 19, 9, 20, 21, 11, 22, 23, 24, 25, 26, 27, 28, 29, 30, 35, 36, 37, 38, 101, 102, 103, 104, 105, 106, 107, 108] (by decide +kernel) (by decide +kernel)
set_option maxRecDepth 20000 in
theorem gX2_edit_X3_markModified : GoodIn wsX2_edit (wsV RX2 44 RX3 yX3_markModified wsX3_markModified) := goodIn_app (goodIn_of _ (by decide +kernel)) ggX2_edit_X3_markModified
theorem dX2_edit_0 : decode cX2_edit 0 = .ok (.iload_n 1, 1) := by decide +kernel
theorem dX2_edit_1 : decode cX2_edit 1 = .ok (.bipush 49, 2) := by decide +kernel
theorem dX2_edit_3 : decode cX2_edit 3 = .ok (.if_icmp .ne 19, 3) := by decide +kernel
theorem dX2_edit_6 : decode cX2_edit 6 = .ok (.aload_n 0, 1) := by decide +kernel
theorem dX2_edit_7 : decode cX2_edit 7 = .ok (.getfield 9, 3) := by decide +kernel
theorem dX2_edit_10 : decode cX2_edit 10 = .ok (.invokevirtual 116, 3) := by decide +kernel
theorem dX2_edit_13 : decode cX2_edit 13 = .ok (.aload_n 0, 1) := by decide +kernel
theorem dX2_edit_14 : decode cX2_edit 14 = .ok (.getfield 15, 3) := by decide +kernel
theorem dX2_edit_17 : decode cX2_edit 17 = .ok (.invokevirtual 119, 3) := by decide +kernel
theorem dX2_edit_20 : decode cX2_edit 20 = .ok (.iconst 1, 1) := by decide +kernel
theorem dX2_edit_21 : decode cX2_edit 21 = .ok (.ireturn, 1) := by decide +kernel
theorem dX2_edit_22 : decode cX2_edit 22 = .ok (.iload_n 1, 1) := by decide +kernel
theorem dX2_edit_23 : decode cX2_edit 23 = .ok (.bipush 50, 2) := by decide +kernel
theorem dX2_edit_25 : decode cX2_edit 25 = .ok (.if_icmp .ne 10, 3) := by decide +kernel
theorem dX2_edit_28 : decode cX2_edit 28 = .ok (.aload_n 0, 1) := by decide +kernel
theorem dX2_edit_29 : decode cX2_edit 29 = .ok (.iconst 1, 1) := by decide +kernel
theorem dX2_edit_30 : decode cX2_edit 30 = .ok (.putfield 23, 3) := by decide +kernel
theorem dX2_edit_33 : decode cX2_edit 33 = .ok (.iconst 1, 1) := by decide +kernel
theorem dX2_edit_34 : decode cX2_edit 34 = .ok (.ireturn, 1) := by decide +kernel
theorem dX2_edit_35 : decode cX2_edit 35 = .ok (.aload_n 0, 1) := by decide +kernel
theorem dX2_edit_36 : decode cX2_edit 36 = .ok (.getfield 9, 3) := by decide +kernel
theorem dX2_edit_39 : decode cX2_edit 39 = .ok (.getfield 26, 3) := by decide +kernel
theorem dX2_edit_42 : decode cX2_edit 42 = .ok (.istore_n 2, 1) := by decide +kernel
theorem dX2_edit_43 : decode cX2_edit 43 = .ok (.aload_n 0, 1) := by decide +kernel
theorem dX2_edit_44 : decode cX2_edit 44 = .ok (.getfield 9, 3) := by decide +kernel
theorem dX2_edit_47 : decode cX2_edit 47 = .ok (.iload_n 2, 1) := by decide +kernel
theorem dX2_edit_48 : decode cX2_edit 48 = .ok (.invokevirtual 52, 3) := by decide +kernel
theorem dX2_edit_51 : decode cX2_edit 51 = .ok (.ifCond .ne 10, 3) := by decide +kernel
theorem dX2_edit_54 : decode cX2_edit 54 = .ok (.aload_n 0, 1) := by decide +kernel
theorem dX2_edit_55 : decode cX2_edit 55 = .ok (.iconst 1, 1) := by decide +kernel
theorem dX2_edit_56 : decode cX2_edit 56 = .ok (.putfield 19, 3) := by decide +kernel
theorem dX2_edit_59 : decode cX2_edit 59 = .ok (.iconst 0, 1) := by decide +kernel
theorem dX2_edit_60 : decode cX2_edit 60 = .ok (.ireturn, 1) := by decide +kernel
theorem dX2_edit_61 : decode cX2_edit 61 = .ok (.iload_n 1, 1) := by decide +kernel
theorem dX2_edit_62 : decode cX2_edit 62 = .ok (.bipush 48, 2) := by decide +kernel
theorem dX2_edit_64 : decode cX2_edit 64 = .ok (.if_icmp .ne 23, 3) := by decide +kernel
theorem dX2_edit_67 : decode cX2_edit 67 = .ok (.aload_n 0, 1) := by decide +kernel
theorem dX2_edit_68 : decode cX2_edit 68 = .ok (.getfield 9, 3) := by decide +kernel
theorem dX2_edit_71 : decode cX2_edit 71 = .ok (.iload_n 2, 1) := by decide +kernel
theorem dX2_edit_72 : decode cX2_edit 72 = .ok (.aload_n 0, 1) := by decide +kernel
theorem dX2_edit_73 : decode cX2_edit 73 = .ok (.getfield 9, 3) := by decide +kernel
theorem dX2_edit_76 : decode cX2_edit 76 = .ok (.iload_n 2, 1) := by decide +kernel
theorem dX2_edit_77 : decode cX2_edit 77 = .ok (.invokevirtual 122, 3) := by decide +kernel
theorem dX2_edit_80 : decode cX2_edit 80 = .ok (.iconst 0, 1) := by decide +kernel
theorem dX2_edit_81 : decode cX2_edit 81 = .ok (.invokevirtual 125, 3) := by decide +kernel
theorem dX2_edit_84 : decode cX2_edit 84 = .ok (.goto 11, 3) := by decide +kernel
theorem dX2_edit_87 : decode cX2_edit 87 = .ok (.aload_n 0, 1) := by decide +kernel
theorem dX2_edit_88 : decode cX2_edit 88 = .ok (.getfield 9, 3) := by decide +kernel
theorem dX2_edit_91 : decode cX2_edit 91 = .ok (.iload_n 2, 1) := by decide +kernel
theorem dX2_edit_92 : decode cX2_edit 92 = .ok (.invokevirtual 129, 3) := by decide +kernel
theorem dX2_edit_95 : decode cX2_edit 95 = .ok (.aload_n 0, 1) := by decide +kernel
theorem dX2_edit_96 : decode cX2_edit 96 = .ok (.getfield 9, 3) := by decide +kernel
theorem dX2_edit_99 : decode cX2_edit 99 = .ok (.iload_n 2, 1) := by decide +kernel
theorem dX2_edit_100 : decode cX2_edit 100 = .ok (.invokevirtual 44, 3) := by decide +kernel
theorem dX2_edit_103 : decode cX2_edit 103 = .ok (.iconst 1, 1) := by decide +kernel
theorem dX2_edit_104 : decode cX2_edit 104 = .ok (.ireturn, 1) := by decide +kernel
set_option maxRecDepth 20000 in
theorem ggX4_init_X0_init : GoodIn wsX4_init wsX0_init := goodIn_r _ [11, 12, 2, 3, 13, 14, 15, 19, 20] (by decide +kernel) (by decide +kernel)
set_option maxRecDepth 20000 in
theorem gX4_init_X0_init_n17 : GoodIn wsX4_init (wsX0_init) := ggX4_init_X0_init
theorem dX4_init_0 : decode cX4_init 0 = .ok (.aload_n 0, 1) := by decide +kernel
theorem dX4_init_1 : decode cX4_init 1 = .ok (.invokespecial 3, 3) := by decide +kernel
theorem dX4_init_4 : decode cX4_init 4 = .ok (.aload_n 0, 1) := by decide +kernel
theorem dX4_init_5 : decode cX4_init 5 = .ok (.aload_n 1, 1) := by decide +kernel
theorem dX4_init_6 : decode cX4_init 6 = .ok (.putfield 9, 3) := by decide +kernel
theorem dX4_init_9 : decode cX4_init 9 = .ok (.aload_n 0, 1) := by decide +kernel
theorem dX4_init_10 : decode cX4_init 10 = .ok (.new 15, 3) := by decide +kernel
theorem dX4_init_13 : decode cX4_init 13 = .ok (.dup, 1) := by decide +kernel
theorem dX4_init_14 : decode cX4_init 14 = .ok (.invokespecial 17, 3) := by decide +kernel
theorem dX4_init_17 : decode cX4_init 17 = .ok (.putfield 18, 3) := by decide +kernel
theorem dX4_init_20 : decode cX4_init 20 = .ok (.aload_n 0, 1) := by decide +kernel
theorem dX4_init_21 : decode cX4_init 21 = .ok (.bipush 96, 2) := by decide +kernel
theorem dX4_init_23 : decode cX4_init 23 = .ok (.putfield 22, 3) := by decide +kernel
theorem dX4_init_26 : decode cX4_init 26 = .ok (.return_, 1) := by decide +kernel
set_option maxRecDepth 20000 in
theorem ggX4_drop_X0_clear : GoodIn wsX4_drop wsX0_clear := goodIn_r _ [6, 7, 11, 12] (by decide +kernel) (by decide +kernel)
set_option maxRecDepth 20000 in
theorem gX4_drop_X0_clear : GoodIn wsX4_drop (wsV RX4 26 RX0 yX0_clear wsX0_clear) := goodIn_app (goodIn_of _ (by decide +kernel)) ggX4_drop_X0_clear
theorem dX4_drop_0 : decode cX4_drop 0 = .ok (.aload_n 0, 1) := by decide +kernel
theorem dX4_drop_1 : decode cX4_drop 1 = .ok (.getfield 18, 3) := by decide +kernel
theorem dX4_drop_4 : decode cX4_drop 4 = .ok (.invokevirtual 26, 3) := by decide +kernel
theorem dX4_drop_7 : decode cX4_drop 7 = .ok (.return_, 1) := by decide +kernel
set_option maxRecDepth 20000 in
theorem ggX4_compose_X0_clear : GoodIn wsX4_compose wsX0_clear := goodIn_r _ [11, 12, 92, 93] (by decide +kernel) (by decide +kernel)
set_option maxRecDepth 20000 in
theorem gX4_compose_X0_clear : GoodIn wsX4_compose (wsV RX4 26 RX0 yX0_clear wsX0_clear) := goodIn_app (goodIn_of _ (by decide +kernel)) ggX4_compose_X0_clear
set_option maxRecDepth 20000 in
theorem ggX4_compose_X4_add : GoodIn wsX4_compose wsX4_add := goodIn_r _ [17, 1, 18, 19, 20, 10, 21, 12, 22, 23, 24, 25, 26, 27, 28, 29, 30, 31, 32, 33, 34, 35, 36, 37, 38, 39, 40, 41, 42, 81, 82, 83, 92, 93] (by decide +kernel) (by decide +kernel)
set_option maxRecDepth 20000 in
theorem gX4_compose_X4_add : GoodIn wsX4_compose (wsV RX4 29 RX4 yX4_add wsX4_add) := goodIn_app (goodIn_of _ (by decide +kernel)) ggX4_compose_X4_add
set_option maxRecDepth 20000 in
theorem ggX4_compose_X4_latestSendsShortly : GoodIn wsX4_compose wsX4_latestSendsShortly := goodIn_r _ [46, 2, 81, 82, 83] (by decide +kernel) (by decide +kernel)
set_option maxRecDepth 20000 in
theorem gX4_compose_X4_latestSendsShortly : GoodIn wsX4_compose (wsV RX4 33 RX4 yX4_latestSendsShortly wsX4_latestSendsShortly) := goodIn_app (goodIn_of _ (by decide +kernel)) ggX4_compose_X4_latestSendsShortly
set_option maxRecDepth 20000 in
theorem ggX4_compose_X4_addAddress : GoodIn wsX4_compose wsX4_addAddress := goodIn_r _ [50, 3, 6, 13, 14, 15, 16, 17, 1, 18, 19, 20, 10, 21, 12, 22, 23, 24, 25, 26, 27, 28, 29, 30, 31, 32, 33, 34, 35, 36, 37, 38, 39, 40, 41, 42, 81, 82, 83, 84, 85, 86, 87, 88, 89, 90, 91, 92, 93] (by decide +kernel) (by decide +kernel)
set_option maxRecDepth 20000 in
theorem gX4_compose_X4_addAddress : GoodIn wsX4_compose (wsV RX4 42 RX4 yX4_addAddress wsX4_addAddress) := goodIn_app (goodIn_of _ (by decide +kernel)) ggX4_compose_X4_addAddress
set_option maxRecDepth 20000 in
theorem ggX4_compose_X4_addAllCells : GoodIn wsX4_compose wsX4_addAllCells := goodIn_r _ [54, 3, 6, 55, 56, 57, 58, 59, 60, 13, 14, 15, 16, 17, 1, 18, 19, 20, 10, 21, 12, 22, 23, 24, 25, 26, 27, 28, 29, 30, 31, 32, 33, 34, 35, 36, 37, 38, 39, 40, 41, 42, 81, 82, 83, 84, 85, 86, 87, 88, 89, 90, 91, 92, 93] (by decide +kernel) (by decide +kernel)
set_option maxRecDepth 20000 in
theorem gX4_compose_X4_addAllCells : GoodIn wsX4_compose (wsV RX4 45 RX4 yX4_addAllCells wsX4_addAllCells) := goodIn_app (goodIn_of _ (by decide +kernel)) ggX4_compose_X4_addAllCells
set_option maxRecDepth 20000 in
theorem ggX4_compose_X4_addModifiedFields : GoodIn wsX4_compose wsX4_addModifiedFields := goodIn_r _ [64, 3, 6, 55, 56, 57, 58, 59, 60, 65, 66, 67, 68, 69, 13, 14, 15, 16, 17, 1, 18, 19, 20, 10, 21, 12, 22, 23, 24, 25, 26, 27, 28, 29, 30, 31, 32, 33, 34, 35, 36, 37, 38, 39, 40, 41, 42, 47, 48, 49, 50, 70, 71, 72, 73, 74, 75, 76, 77, 78, 79, 80, 81, 82, 83, 84, 85, 86, 87, 88, 89, 90, 91, 92, 93] (by decide +kernel) (by decide +kernel)
set_option maxRecDepth 20000 in
theorem gX4_compose_X4_addModifiedFields : GoodIn wsX4_compose (wsV RX4 51 RX4 yX4_addModifiedFields wsX4_addModifiedFields) := goodIn_app (goodIn_of _ (by decide +kernel)) ggX4_compose_X4_addModifiedFields
set_option maxRecDepth 20000 in
theorem ggX4_compose_X4_addSigns : GoodIn wsX4_compose wsX4_addSigns := goodIn_r _ [80, 3, 55, 56, 57, 58, 59, 60, 13, 14, 15, 16, 17, 1, 18, 19, 20, 10, 21, 12, 22, 23, 24, 25, 26, 27, 28, 29, 30, 31, 32, 33, 34, 35, 36, 37, 38, 39, 40, 41, 42, 65, 66, 67, 68, 69, 81, 82, 83, 84, 85, 86, 87, 88, 89, 90, 91, 92, 93] (by decide +kernel) (by decide +kernel)
set_option maxRecDepth 20000 in
theorem gX4_compose_X4_addSigns : GoodIn wsX4_compose (wsV RX4 57 RX4 yX4_addSigns wsX4_addSigns) := goodIn_app (goodIn_of _ (by decide +kernel)) ggX4_compose_X4_addSigns
set_option maxRecDepth 20000 in
theorem ggX4_compose_X0_add : GoodIn wsX4_compose wsX0_add := goodIn_r _ [21, 12, 22, 23, 24, 25, 26, 27, 28, 29, 30, 31, 32, 33, 34, 35, 36, 37, 38, 39, 40, 41, 42, 92, 93] (by decide +kernel) (by decide +kernel)
set_option maxRecDepth 20000 in
theorem gX4_compose_X0_add : GoodIn wsX4_compose (wsV RX4 61 RX0 yX0_add wsX0_add) := goodIn_app (goodIn_of _ (by decide +kernel)) ggX4_compose_X0_add
theorem dX4_compose_0 : decode cX4_compose 0 = .ok (.aload_n 0, 1) := by decide +kernel
theorem dX4_compose_1 : decode cX4_compose 1 = .ok (.getfield 18, 3) := by decide +kernel
theorem dX4_compose_4 : decode cX4_compose 4 = .ok (.invokevirtual 26, 3) := by decide +kernel
theorem dX4_compose_7 : decode cX4_compose 7 = .ok (.aload_n 0, 1) := by decide +kernel
theorem dX4_compose_8 : decode cX4_compose 8 = .ok (.aload_n 0, 1) := by decide +kernel
theorem dX4_compose_9 : decode cX4_compose 9 = .ok (.getfield 22, 3) := by decide +kernel
theorem dX4_compose_12 : decode cX4_compose 12 = .ok (.invokevirtual 29, 3) := by decide +kernel
theorem dX4_compose_15 : decode cX4_compose 15 = .ok (.aload_n 0, 1) := by decide +kernel
theorem dX4_compose_16 : decode cX4_compose 16 = .ok (.invokevirtual 33, 3) := by decide +kernel
theorem dX4_compose_19 : decode cX4_compose 19 = .ok (.ifCond .ne 54, 3) := by decide +kernel
theorem dX4_compose_22 : decode cX4_compose 22 = .ok (.aload_n 0, 1) := by decide +kernel
theorem dX4_compose_23 : decode cX4_compose 23 = .ok (.aload_n 0, 1) := by decide +kernel
theorem dX4_compose_24 : decode cX4_compose 24 = .ok (.getfield 9, 3) := by decide +kernel
theorem dX4_compose_27 : decode cX4_compose 27 = .ok (.getfield 37, 3) := by decide +kernel
theorem dX4_compose_30 : decode cX4_compose 30 = .ok (.invokevirtual 42, 3) := by decide +kernel
theorem dX4_compose_33 : decode cX4_compose 33 = .ok (.iload_n 1, 1) := by decide +kernel
theorem dX4_compose_34 : decode cX4_compose 34 = .ok (.ifCond .eq 10, 3) := by decide +kernel
theorem dX4_compose_37 : decode cX4_compose 37 = .ok (.aload_n 0, 1) := by decide +kernel
theorem dX4_compose_38 : decode cX4_compose 38 = .ok (.invokevirtual 45, 3) := by decide +kernel
theorem dX4_compose_41 : decode cX4_compose 41 = .ok (.goto 32, 3) := by decide +kernel
theorem dX4_compose_44 : decode cX4_compose 44 = .ok (.aload_n 0, 1) := by decide +kernel
theorem dX4_compose_45 : decode cX4_compose 45 = .ok (.getfield 9, 3) := by decide +kernel
theorem dX4_compose_48 : decode cX4_compose 48 = .ok (.getfield 48, 3) := by decide +kernel
theorem dX4_compose_51 : decode cX4_compose 51 = .ok (.ifCond .le 10, 3) := by decide +kernel
theorem dX4_compose_54 : decode cX4_compose 54 = .ok (.aload_n 0, 1) := by decide +kernel
theorem dX4_compose_55 : decode cX4_compose 55 = .ok (.invokevirtual 51, 3) := by decide +kernel
theorem dX4_compose_58 : decode cX4_compose 58 = .ok (.goto 15, 3) := by decide +kernel
theorem dX4_compose_61 : decode cX4_compose 61 = .ok (.aload_n 0, 1) := by decide +kernel
theorem dX4_compose_62 : decode cX4_compose 62 = .ok (.iconst 0, 1) := by decide +kernel
theorem dX4_compose_63 : decode cX4_compose 63 = .ok (.aload_n 0, 1) := by decide +kernel
theorem dX4_compose_64 : decode cX4_compose 64 = .ok (.getfield 9, 3) := by decide +kernel
theorem dX4_compose_67 : decode cX4_compose 67 = .ok (.getfield 54, 3) := by decide +kernel
theorem dX4_compose_70 : decode cX4_compose 70 = .ok (.invokevirtual 57, 3) := by decide +kernel
theorem dX4_compose_73 : decode cX4_compose 73 = .ok (.aload_n 0, 1) := by decide +kernel
theorem dX4_compose_74 : decode cX4_compose 74 = .ok (.getfield 18, 3) := by decide +kernel
theorem dX4_compose_77 : decode cX4_compose 77 = .ok (.sipush 255, 3) := by decide +kernel
theorem dX4_compose_80 : decode cX4_compose 80 = .ok (.invokevirtual 61, 3) := by decide +kernel
theorem dX4_compose_83 : decode cX4_compose 83 = .ok (.aload_n 0, 1) := by decide +kernel
theorem dX4_compose_84 : decode cX4_compose 84 = .ok (.getfield 18, 3) := by decide +kernel
theorem dX4_compose_87 : decode cX4_compose 87 = .ok (.sipush 239, 3) := by decide +kernel
theorem dX4_compose_90 : decode cX4_compose 90 = .ok (.invokevirtual 61, 3) := by decide +kernel
theorem dX4_compose_93 : decode cX4_compose 93 = .ok (.return_, 1) := by decide +kernel
theorem dX4_latestSendsShortly_0 : decode cX4_latestSendsShortly 0 = .ok (.aload_n 0, 1) := by decide +kernel
theorem dX4_latestSendsShortly_1 : decode cX4_latestSendsShortly 1 = .ok (.getfield 22, 3) := by decide +kernel
theorem dX4_latestSendsShortly_4 : decode cX4_latestSendsShortly 4 = .ok (.bipush 107, 2) := by decide +kernel
theorem dX4_latestSendsShortly_6 : decode cX4_latestSendsShortly 6 = .ok (.if_icmp .lt 16, 3) := by decide +kernel
theorem dX4_latestSendsShortly_9 : decode cX4_latestSendsShortly 9 = .ok (.aload_n 0, 1) := by decide +kernel
theorem dX4_latestSendsShortly_10 : decode cX4_latestSendsShortly 10 = .ok (.getfield 22, 3) := by decide +kernel
theorem dX4_latestSendsShortly_13 : decode cX4_latestSendsShortly 13 = .ok (.bipush 110, 2) := by decide +kernel
theorem dX4_latestSendsShortly_15 : decode cX4_latestSendsShortly 15 = .ok (.if_icmp .gt 7, 3) := by decide +kernel
theorem dX4_latestSendsShortly_18 : decode cX4_latestSendsShortly 18 = .ok (.iconst 1, 1) := by decide +kernel
theorem dX4_latestSendsShortly_19 : decode cX4_latestSendsShortly 19 = .ok (.goto 4, 3) := by decide +kernel
theorem dX4_latestSendsShortly_22 : decode cX4_latestSendsShortly 22 = .ok (.iconst 0, 1) := by decide +kernel
theorem dX4_latestSendsShortly_23 : decode cX4_latestSendsShortly 23 = .ok (.ireturn, 1) := by decide +kernel
set_option maxRecDepth 20000 in
theorem ggX4_add_X0_add : GoodIn wsX4_add wsX0_add := goodIn_r _ [6, 7, 8, 9, 10, 11, 12, 13, 14, 15, 16, 17, 18, 19, 20, 21, 22, 23, 24, 25, 26, 27, 28, 32, 33] (by decide +kernel) (by decide +kernel)
set_option maxRecDepth 20000 in
theorem gX4_add_X0_add : GoodIn wsX4_add (wsV RX4 61 RX0 yX0_add wsX0_add) := goodIn_app (goodIn_of _ (by decide +kernel)) ggX4_add_X0_add
theorem dX4_add_0 : decode cX4_add 0 = .ok (.aload_n 0, 1) := by decide +kernel
theorem dX4_add_1 : decode cX4_add 1 = .ok (.getfield 18, 3) := by decide +kernel
theorem dX4_add_4 : decode cX4_add 4 = .ok (.iload_n 1, 1) := by decide +kernel
theorem dX4_add_5 : decode cX4_add 5 = .ok (.invokevirtual 61, 3) := by decide +kernel
theorem dX4_add_8 : decode cX4_add 8 = .ok (.iload_n 1, 1) := by decide +kernel
theorem dX4_add_9 : decode cX4_add 9 = .ok (.sipush 255, 3) := by decide +kernel
theorem dX4_add_12 : decode cX4_add 12 = .ok (.if_icmp .ne 11, 3) := by decide +kernel
theorem dX4_add_15 : decode cX4_add 15 = .ok (.aload_n 0, 1) := by decide +kernel
theorem dX4_add_16 : decode cX4_add 16 = .ok (.getfield 18, 3) := by decide +kernel
theorem dX4_add_19 : decode cX4_add 19 = .ok (.iload_n 1, 1) := by decide +kernel
theorem dX4_add_20 : decode cX4_add 20 = .ok (.invokevirtual 61, 3) := by decide +kernel
theorem dX4_add_23 : decode cX4_add 23 = .ok (.return_, 1) := by decide +kernel
set_option maxRecDepth 20000 in
theorem ggX4_addAddress_X4_add : GoodIn wsX4_addAddress wsX4_add := goodIn_r _ [7, 8, 9, 10, 11, 12, 13, 14, 15, 16, 17, 18, 19, 20, 21, 22, 23, 24, 25, 26, 27, 28, 29, 30, 31, 32, 33, 34, 35, 36, 37, 38, 47, 48] (by decide +kernel) (by decide +kernel)
set_option maxRecDepth 20000 in
theorem gX4_addAddress_X4_add : GoodIn wsX4_addAddress (wsV RX4 29 RX4 yX4_add wsX4_add) := goodIn_app (goodIn_of _ (by decide +kernel)) ggX4_addAddress_X4_add
theorem dX4_addAddress_0 : decode cX4_addAddress 0 = .ok (.aload_n 0, 1) := by decide +kernel
theorem dX4_addAddress_1 : decode cX4_addAddress 1 = .ok (.getfield 9, 3) := by decide +kernel
theorem dX4_addAddress_4 : decode cX4_addAddress 4 = .ok (.getfield 54, 3) := by decide +kernel
theorem dX4_addAddress_7 : decode cX4_addAddress 7 = .ok (.sipush 4096, 3) := by decide +kernel
theorem dX4_addAddress_10 : decode cX4_addAddress 10 = .ok (.if_icmp .gt 31, 3) := by decide +kernel
theorem dX4_addAddress_13 : decode cX4_addAddress 13 = .ok (.aload_n 0, 1) := by decide +kernel
theorem dX4_addAddress_14 : decode cX4_addAddress 14 = .ok (.bipush 64, 2) := by decide +kernel
theorem dX4_addAddress_16 : decode cX4_addAddress 16 = .ok (.iload_n 1, 1) := by decide +kernel
theorem dX4_addAddress_17 : decode cX4_addAddress 17 = .ok (.bipush 6, 2) := by decide +kernel
theorem dX4_addAddress_19 : decode cX4_addAddress 19 = .ok (.ishr, 1) := by decide +kernel
theorem dX4_addAddress_20 : decode cX4_addAddress 20 = .ok (.bipush 63, 2) := by decide +kernel
theorem dX4_addAddress_22 : decode cX4_addAddress 22 = .ok (.iand, 1) := by decide +kernel
theorem dX4_addAddress_23 : decode cX4_addAddress 23 = .ok (.iadd, 1) := by decide +kernel
theorem dX4_addAddress_24 : decode cX4_addAddress 24 = .ok (.invokevirtual 29, 3) := by decide +kernel
theorem dX4_addAddress_27 : decode cX4_addAddress 27 = .ok (.aload_n 0, 1) := by decide +kernel
theorem dX4_addAddress_28 : decode cX4_addAddress 28 = .ok (.bipush 64, 2) := by decide +kernel
theorem dX4_addAddress_30 : decode cX4_addAddress 30 = .ok (.iload_n 1, 1) := by decide +kernel
theorem dX4_addAddress_31 : decode cX4_addAddress 31 = .ok (.bipush 63, 2) := by decide +kernel
theorem dX4_addAddress_33 : decode cX4_addAddress 33 = .ok (.iand, 1) := by decide +kernel
theorem dX4_addAddress_34 : decode cX4_addAddress 34 = .ok (.iadd, 1) := by decide +kernel
theorem dX4_addAddress_35 : decode cX4_addAddress 35 = .ok (.invokevirtual 29, 3) := by decide +kernel
theorem dX4_addAddress_38 : decode cX4_addAddress 38 = .ok (.goto 20, 3) := by decide +kernel
theorem dX4_addAddress_41 : decode cX4_addAddress 41 = .ok (.aload_n 0, 1) := by decide +kernel
theorem dX4_addAddress_42 : decode cX4_addAddress 42 = .ok (.iload_n 1, 1) := by decide +kernel
theorem dX4_addAddress_43 : decode cX4_addAddress 43 = .ok (.bipush 8, 2) := by decide +kernel
theorem dX4_addAddress_45 : decode cX4_addAddress 45 = .ok (.ishr, 1) := by decide +kernel
theorem dX4_addAddress_46 : decode cX4_addAddress 46 = .ok (.invokevirtual 29, 3) := by decide +kernel
theorem dX4_addAddress_49 : decode cX4_addAddress 49 = .ok (.aload_n 0, 1) := by decide +kernel
theorem dX4_addAddress_50 : decode cX4_addAddress 50 = .ok (.iload_n 1, 1) := by decide +kernel
theorem dX4_addAddress_51 : decode cX4_addAddress 51 = .ok (.sipush 255, 3) := by decide +kernel
theorem dX4_addAddress_54 : decode cX4_addAddress 54 = .ok (.iand, 1) := by decide +kernel
theorem dX4_addAddress_55 : decode cX4_addAddress 55 = .ok (.invokevirtual 29, 3) := by decide +kernel
theorem dX4_addAddress_58 : decode cX4_addAddress 58 = .ok (.return_, 1) := by decide +kernel
set_option maxRecDepth 20000 in
theorem ggX4_addAllCells_X3_get : GoodIn wsX4_addAllCells wsX3_get := goodIn_r _ [7, 8, 45, 46, 47, 48, 49, 50, 51, 52] (by decide +kernel) (by decide +kernel)
set_option maxRecDepth 20000 in
theorem gX4_addAllCells_X3_get : GoodIn wsX4_addAllCells (wsV RX4 62 RX3 yX3_get wsX3_get) := goodIn_app (goodIn_of _ (by decide +kernel)) ggX4_addAllCells_X3_get
set_option maxRecDepth 20000 in
theorem ggX4_addAllCells_X4_add : GoodIn wsX4_addAllCells wsX4_add := goodIn_r _ [13, 14, 15, 16, 17, 18, 19, 20, 21, 22, 23, 24, 25, 26, 27, 28, 29, 30, 31, 32, 33, 34, 35, 36, 37, 38, 39, 40, 41, 42, 43, 44, 53, 54] (by decide +kernel) (by decide +kernel)
set_option maxRecDepth 20000 in
theorem gX4_addAllCells_X4_add : GoodIn wsX4_addAllCells (wsV RX4 29 RX4 yX4_add wsX4_add) := goodIn_app (goodIn_of _ (by decide +kernel)) ggX4_addAllCells_X4_add
theorem dX4_addAllCells_0 : decode cX4_addAllCells 0 = .ok (.iconst 0, 1) := by decide +kernel
theorem dX4_addAllCells_1 : decode cX4_addAllCells 1 = .ok (.istore_n 1, 1) := by decide +kernel
theorem dX4_addAllCells_2 : decode cX4_addAllCells 2 = .ok (.iload_n 1, 1) := by decide +kernel
theorem dX4_addAllCells_3 : decode cX4_addAllCells 3 = .ok (.aload_n 0, 1) := by decide +kernel
theorem dX4_addAllCells_4 : decode cX4_addAllCells 4 = .ok (.getfield 9, 3) := by decide +kernel
theorem dX4_addAllCells_7 : decode cX4_addAllCells 7 = .ok (.getfield 54, 3) := by decide +kernel
theorem dX4_addAllCells_10 : decode cX4_addAllCells 10 = .ok (.if_icmp .ge 48, 3) := by decide +kernel
theorem dX4_addAllCells_13 : decode cX4_addAllCells 13 = .ok (.aload_n 0, 1) := by decide +kernel
theorem dX4_addAllCells_14 : decode cX4_addAllCells 14 = .ok (.getfield 9, 3) := by decide +kernel
theorem dX4_addAllCells_17 : decode cX4_addAllCells 17 = .ok (.iload_n 1, 1) := by decide +kernel
theorem dX4_addAllCells_18 : decode cX4_addAllCells 18 = .ok (.invokevirtual 62, 3) := by decide +kernel
theorem dX4_addAllCells_21 : decode cX4_addAllCells 21 = .ok (.istore_n 2, 1) := by decide +kernel
theorem dX4_addAllCells_22 : decode cX4_addAllCells 22 = .ok (.iload_n 2, 1) := by decide +kernel
theorem dX4_addAllCells_23 : decode cX4_addAllCells 23 = .ok (.sipush 256, 3) := by decide +kernel
theorem dX4_addAllCells_26 : decode cX4_addAllCells 26 = .ok (.if_icmp .lt 21, 3) := by decide +kernel
theorem dX4_addAllCells_29 : decode cX4_addAllCells 29 = .ok (.aload_n 0, 1) := by decide +kernel
theorem dX4_addAllCells_30 : decode cX4_addAllCells 30 = .ok (.bipush 29, 2) := by decide +kernel
theorem dX4_addAllCells_32 : decode cX4_addAllCells 32 = .ok (.invokevirtual 29, 3) := by decide +kernel
theorem dX4_addAllCells_35 : decode cX4_addAllCells 35 = .ok (.aload_n 0, 1) := by decide +kernel
theorem dX4_addAllCells_36 : decode cX4_addAllCells 36 = .ok (.iload_n 2, 1) := by decide +kernel
theorem dX4_addAllCells_37 : decode cX4_addAllCells 37 = .ok (.sipush 256, 3) := by decide +kernel
theorem dX4_addAllCells_40 : decode cX4_addAllCells 40 = .ok (.isub, 1) := by decide +kernel
theorem dX4_addAllCells_41 : decode cX4_addAllCells 41 = .ok (.invokevirtual 29, 3) := by decide +kernel
theorem dX4_addAllCells_44 : decode cX4_addAllCells 44 = .ok (.goto 8, 3) := by decide +kernel
theorem dX4_addAllCells_47 : decode cX4_addAllCells 47 = .ok (.aload_n 0, 1) := by decide +kernel
theorem dX4_addAllCells_48 : decode cX4_addAllCells 48 = .ok (.iload_n 2, 1) := by decide +kernel
theorem dX4_addAllCells_49 : decode cX4_addAllCells 49 = .ok (.invokevirtual 29, 3) := by decide +kernel
theorem dX4_addAllCells_52 : decode cX4_addAllCells 52 = .ok (.iinc 1 1, 3) := by decide +kernel
theorem dX4_addAllCells_55 : decode cX4_addAllCells 55 = .ok (.goto (-53), 3) := by decide +kernel
theorem dX4_addAllCells_58 : decode cX4_addAllCells 58 = .ok (.return_, 1) := by decide +kernel
set_option maxRecDepth 20000 in
theorem ggX4_addModifiedFields_X3_get : GoodIn wsX4_addModifiedFields wsX3_get := goodIn_r _ [7, 8, 65, 66, 67, 68, 69, 70, 71, 72] (by decide +kernel) (by decide +kernel)
set_option maxRecDepth 20000 in
theorem gX4_addModifiedFields_X3_get : GoodIn wsX4_addModifiedFields (wsV RX4 62 RX3 yX3_get wsX3_get) := goodIn_app (goodIn_of _ (by decide +kernel)) ggX4_addModifiedFields_X3_get
set_option maxRecDepth 20000 in
theorem ggX4_addModifiedFields_X3_after : GoodIn wsX4_addModifiedFields wsX3_after := goodIn_r _ [12, 13, 65, 66, 67, 68, 69, 70, 71, 72] (by decide +kernel) (by decide +kernel)
set_option maxRecDepth 20000 in
theorem gX4_addModifiedFields_X3_after : GoodIn wsX4_addModifiedFields (wsV RX4 66 RX3 yX3_after wsX3_after) := goodIn_app (goodIn_of _ (by decide +kernel)) ggX4_addModifiedFields_X3_after
set_option maxRecDepth 20000 in
theorem ggX4_addModifiedFields_X4_add : GoodIn wsX4_addModifiedFields wsX4_add := goodIn_r _ [18, 19, 20, 21, 22, 23, 24, 25, 26, 27, 28, 29, 30, 31, 32, 33, 34, 35, 36, 37, 38, 39, 40, 41, 42, 43, 44, 45, 46, 62, 63, 64, 73, 74] (by decide +kernel) (by decide +kernel)
set_option maxRecDepth 20000 in
theorem gX4_addModifiedFields_X4_add : GoodIn wsX4_addModifiedFields (wsV RX4 29 RX4 yX4_add wsX4_add) := goodIn_app (goodIn_of _ (by decide +kernel)) ggX4_addModifiedFields_X4_add
set_option maxRecDepth 20000 in
theorem ggX4_addModifiedFields_X4_addAddress : GoodIn wsX4_addModifiedFields wsX4_addAddress := goodIn_r _ [50, 1, 2, 14, 15, 16, 17, 18, 19, 20, 21, 22, 23, 24, 25, 26, 27, 28, 29, 30, 31, 32, 33, 34, 35, 36, 37, 38, 39, 40, 41, 42, 43, 44, 45, 46, 62, 63, 64, 65, 66, 67, 68, 69, 70, 71, 72, 73, 74] (by decide +kernel) (by decide +kernel)
set_option maxRecDepth 20000 in
theorem gX4_addModifiedFields_X4_addAddress : GoodIn wsX4_addModifiedFields (wsV RX4 42 RX4 yX4_addAddress wsX4_addAddress) := goodIn_app (goodIn_of _ (by decide +kernel)) ggX4_addModifiedFields_X4_addAddress
set_option maxRecDepth 20000 in
theorem ggX4_addModifiedFields_X3_cellsToFieldEnd : GoodIn wsX4_addModifiedFields wsX3_cellsToFieldEnd := goodIn_r _ [54, 55, 13, 56, 4, 5, 6, 7, 8, 57, 10, 11, 12, 65, 66, 67, 68, 69, 70, 71, 72] (by decide +kernel) (by decide +kernel)
set_option maxRecDepth 20000 in
theorem gX4_addModifiedFields_X3_cellsToFieldEnd : GoodIn wsX4_addModifiedFields (wsV RX4 69 RX3 yX3_cellsToFieldEnd wsX3_cellsToFieldEnd) := goodIn_app (goodIn_of _ (by decide +kernel)) ggX4_addModifiedFields_X3_cellsToFieldEnd
set_option maxRecDepth 20000 in
theorem ggX4_addModifiedFields_X4_addSigns : GoodIn wsX4_addModifiedFields wsX4_addSigns := goodIn_r _ [61, 1, 3, 4, 5, 6, 7, 8, 14, 15, 16, 17, 18, 19, 20, 21, 22, 23, 24, 25, 26, 27, 28, 29, 30, 31, 32, 33, 34, 35, 36, 37, 38, 39, 40, 41, 42, 43, 44, 45, 46, 9, 10, 11, 12, 13, 62, 63, 64, 65, 66, 67, 68, 69, 70, 71, 72, 73, 74] (by decide +kernel) (by decide +kernel)
set_option maxRecDepth 20000 in
theorem gX4_addModifiedFields_X4_addSigns : GoodIn wsX4_addModifiedFields (wsV RX4 57 RX4 yX4_addSigns wsX4_addSigns) := goodIn_app (goodIn_of _ (by decide +kernel)) ggX4_addModifiedFields_X4_addSigns
theorem dX4_addModifiedFields_0 : decode cX4_addModifiedFields 0 = .ok (.iconst 0, 1) := by decide +kernel
theorem dX4_addModifiedFields_1 : decode cX4_addModifiedFields 1 = .ok (.istore_n 1, 1) := by decide +kernel
theorem dX4_addModifiedFields_2 : decode cX4_addModifiedFields 2 = .ok (.iload_n 1, 1) := by decide +kernel
theorem dX4_addModifiedFields_3 : decode cX4_addModifiedFields 3 = .ok (.aload_n 0, 1) := by decide +kernel
theorem dX4_addModifiedFields_4 : decode cX4_addModifiedFields 4 = .ok (.getfield 9, 3) := by decide +kernel
theorem dX4_addModifiedFields_7 : decode cX4_addModifiedFields 7 = .ok (.getfield 54, 3) := by decide +kernel
theorem dX4_addModifiedFields_10 : decode cX4_addModifiedFields 10 = .ok (.if_icmp .ge 64, 3) := by decide +kernel
theorem dX4_addModifiedFields_13 : decode cX4_addModifiedFields 13 = .ok (.aload_n 0, 1) := by decide +kernel
theorem dX4_addModifiedFields_14 : decode cX4_addModifiedFields 14 = .ok (.getfield 9, 3) := by decide +kernel
theorem dX4_addModifiedFields_17 : decode cX4_addModifiedFields 17 = .ok (.iload_n 1, 1) := by decide +kernel
theorem dX4_addModifiedFields_18 : decode cX4_addModifiedFields 18 = .ok (.invokevirtual 62, 3) := by decide +kernel
theorem dX4_addModifiedFields_21 : decode cX4_addModifiedFields 21 = .ok (.istore_n 2, 1) := by decide +kernel
theorem dX4_addModifiedFields_22 : decode cX4_addModifiedFields 22 = .ok (.iload_n 2, 1) := by decide +kernel
theorem dX4_addModifiedFields_23 : decode cX4_addModifiedFields 23 = .ok (.sipush 256, 3) := by decide +kernel
theorem dX4_addModifiedFields_26 : decode cX4_addModifiedFields 26 = .ok (.if_icmp .lt 42, 3) := by decide +kernel
theorem dX4_addModifiedFields_29 : decode cX4_addModifiedFields 29 = .ok (.iload_n 2, 1) := by decide +kernel
theorem dX4_addModifiedFields_30 : decode cX4_addModifiedFields 30 = .ok (.iconst 1, 1) := by decide +kernel
theorem dX4_addModifiedFields_31 : decode cX4_addModifiedFields 31 = .ok (.iand, 1) := by decide +kernel
theorem dX4_addModifiedFields_32 : decode cX4_addModifiedFields 32 = .ok (.ifCond .eq 36, 3) := by decide +kernel
theorem dX4_addModifiedFields_35 : decode cX4_addModifiedFields 35 = .ok (.aload_n 0, 1) := by decide +kernel
theorem dX4_addModifiedFields_36 : decode cX4_addModifiedFields 36 = .ok (.getfield 9, 3) := by decide +kernel
theorem dX4_addModifiedFields_39 : decode cX4_addModifiedFields 39 = .ok (.iload_n 1, 1) := by decide +kernel
theorem dX4_addModifiedFields_40 : decode cX4_addModifiedFields 40 = .ok (.invokevirtual 66, 3) := by decide +kernel
theorem dX4_addModifiedFields_43 : decode cX4_addModifiedFields 43 = .ok (.istore_n 3, 1) := by decide +kernel
theorem dX4_addModifiedFields_44 : decode cX4_addModifiedFields 44 = .ok (.aload_n 0, 1) := by decide +kernel
theorem dX4_addModifiedFields_45 : decode cX4_addModifiedFields 45 = .ok (.bipush 17, 2) := by decide +kernel
theorem dX4_addModifiedFields_47 : decode cX4_addModifiedFields 47 = .ok (.invokevirtual 29, 3) := by decide +kernel
theorem dX4_addModifiedFields_50 : decode cX4_addModifiedFields 50 = .ok (.aload_n 0, 1) := by decide +kernel
theorem dX4_addModifiedFields_51 : decode cX4_addModifiedFields 51 = .ok (.iload_n 3, 1) := by decide +kernel
theorem dX4_addModifiedFields_52 : decode cX4_addModifiedFields 52 = .ok (.invokevirtual 42, 3) := by decide +kernel
theorem dX4_addModifiedFields_55 : decode cX4_addModifiedFields 55 = .ok (.aload_n 0, 1) := by decide +kernel
theorem dX4_addModifiedFields_56 : decode cX4_addModifiedFields 56 = .ok (.iload_n 3, 1) := by decide +kernel
theorem dX4_addModifiedFields_57 : decode cX4_addModifiedFields 57 = .ok (.aload_n 0, 1) := by decide +kernel
theorem dX4_addModifiedFields_58 : decode cX4_addModifiedFields 58 = .ok (.getfield 9, 3) := by decide +kernel
theorem dX4_addModifiedFields_61 : decode cX4_addModifiedFields 61 = .ok (.iload_n 3, 1) := by decide +kernel
theorem dX4_addModifiedFields_62 : decode cX4_addModifiedFields 62 = .ok (.invokevirtual 69, 3) := by decide +kernel
theorem dX4_addModifiedFields_65 : decode cX4_addModifiedFields 65 = .ok (.invokevirtual 57, 3) := by decide +kernel
theorem dX4_addModifiedFields_68 : decode cX4_addModifiedFields 68 = .ok (.iinc 1 1, 3) := by decide +kernel
theorem dX4_addModifiedFields_71 : decode cX4_addModifiedFields 71 = .ok (.goto (-69), 3) := by decide +kernel
theorem dX4_addModifiedFields_74 : decode cX4_addModifiedFields 74 = .ok (.return_, 1) := by decide +kernel
set_option maxRecDepth 20000 in
theorem ggX4_addSigns_X3_get : GoodIn wsX4_addSigns wsX3_get := goodIn_r _ [6, 7, 49, 50, 51, 52, 53, 54, 55, 56] (by decide +kernel) (by decide +kernel)
set_option maxRecDepth 20000 in
theorem gX4_addSigns_X3_get : GoodIn wsX4_addSigns (wsV RX4 62 RX3 yX3_get wsX3_get) := goodIn_app (goodIn_of _ (by decide +kernel)) ggX4_addSigns_X3_get
set_option maxRecDepth 20000 in
theorem ggX4_addSigns_X4_add : GoodIn wsX4_addSigns wsX4_add := goodIn_r _ [12, 13, 14, 15, 16, 17, 18, 19, 20, 21, 22, 23, 24, 25, 26, 27, 28, 29, 30, 31, 32, 33, 34, 35, 36, 37, 38, 39, 40, 46, 47, 48, 57, 58] (by decide +kernel) (by decide +kernel)
set_option maxRecDepth 20000 in
theorem gX4_addSigns_X4_add : GoodIn wsX4_addSigns (wsV RX4 29 RX4 yX4_add wsX4_add) := goodIn_app (goodIn_of _ (by decide +kernel)) ggX4_addSigns_X4_add
set_option maxRecDepth 20000 in
theorem ggX4_addSigns_X3_after : GoodIn wsX4_addSigns wsX3_after := goodIn_r _ [44, 45, 49, 50, 51, 52, 53, 54, 55, 56] (by decide +kernel) (by decide +kernel)
set_option maxRecDepth 20000 in
theorem gX4_addSigns_X3_after : GoodIn wsX4_addSigns (wsV RX4 66 RX3 yX3_after wsX3_after) := goodIn_app (goodIn_of _ (by decide +kernel)) ggX4_addSigns_X3_after
theorem dX4_addSigns_0 : decode cX4_addSigns 0 = .ok (.iload_n 1, 1) := by decide +kernel
theorem dX4_addSigns_1 : decode cX4_addSigns 1 = .ok (.istore_n 3, 1) := by decide +kernel
theorem dX4_addSigns_2 : decode cX4_addSigns 2 = .ok (.iconst 0, 1) := by decide +kernel
theorem dX4_addSigns_3 : decode cX4_addSigns 3 = .ok (.istore 4, 2) := by decide +kernel
theorem dX4_addSigns_5 : decode cX4_addSigns 5 = .ok (.iload 4, 2) := by decide +kernel
theorem dX4_addSigns_7 : decode cX4_addSigns 7 = .ok (.iload_n 2, 1) := by decide +kernel
theorem dX4_addSigns_8 : decode cX4_addSigns 8 = .ok (.if_icmp .ge 39, 3) := by decide +kernel
theorem dX4_addSigns_11 : decode cX4_addSigns 11 = .ok (.aload_n 0, 1) := by decide +kernel
theorem dX4_addSigns_12 : decode cX4_addSigns 12 = .ok (.getfield 9, 3) := by decide +kernel
theorem dX4_addSigns_15 : decode cX4_addSigns 15 = .ok (.iload_n 3, 1) := by decide +kernel
theorem dX4_addSigns_16 : decode cX4_addSigns 16 = .ok (.invokevirtual 62, 3) := by decide +kernel
theorem dX4_addSigns_19 : decode cX4_addSigns 19 = .ok (.istore 5, 2) := by decide +kernel
theorem dX4_addSigns_21 : decode cX4_addSigns 21 = .ok (.iload 5, 2) := by decide +kernel
theorem dX4_addSigns_23 : decode cX4_addSigns 23 = .ok (.ifCond .eq 9, 3) := by decide +kernel
theorem dX4_addSigns_26 : decode cX4_addSigns 26 = .ok (.aload_n 0, 1) := by decide +kernel
theorem dX4_addSigns_27 : decode cX4_addSigns 27 = .ok (.iload 5, 2) := by decide +kernel
theorem dX4_addSigns_29 : decode cX4_addSigns 29 = .ok (.invokevirtual 29, 3) := by decide +kernel
theorem dX4_addSigns_32 : decode cX4_addSigns 32 = .ok (.aload_n 0, 1) := by decide +kernel
theorem dX4_addSigns_33 : decode cX4_addSigns 33 = .ok (.getfield 9, 3) := by decide +kernel
theorem dX4_addSigns_36 : decode cX4_addSigns 36 = .ok (.iload_n 3, 1) := by decide +kernel
theorem dX4_addSigns_37 : decode cX4_addSigns 37 = .ok (.invokevirtual 66, 3) := by decide +kernel
theorem dX4_addSigns_40 : decode cX4_addSigns 40 = .ok (.istore_n 3, 1) := by decide +kernel
theorem dX4_addSigns_41 : decode cX4_addSigns 41 = .ok (.iinc 4 1, 3) := by decide +kernel
theorem dX4_addSigns_44 : decode cX4_addSigns 44 = .ok (.goto (-39), 3) := by decide +kernel
theorem dX4_addSigns_47 : decode cX4_addSigns 47 = .ok (.return_, 1) := by decide +kernel
set_option maxRecDepth 20000 in
theorem ggX5_init_X3_init : GoodIn wsX5_init wsX3_init := goodIn_r _ [24, 25, 2, 3, 26, 27, 28, 29, 30, 31, 32, 33, 34, 35, 36, 37, 38, 39, 40, 41, 81, 82, 83, 84, 85, 86, 87, 88] (by decide +kernel) (by decide +kernel)
set_option maxRecDepth 20000 in
theorem gX5_init_X3_init : GoodIn wsX5_init (wsX3_init) := ggX5_init_X3_init
set_option maxRecDepth 20000 in
theorem ggX5_init_X4_init : GoodIn wsX5_init wsX4_init := goodIn_r _ [44, 45, 2, 3, 46, 47, 48, 49, 50, 51, 52, 53, 54, 55, 56, 57, 95, 96, 97, 112, 113] (by decide +kernel) (by decide +kernel)
set_option maxRecDepth 20000 in
theorem gX5_init_X4_init : GoodIn wsX5_init (wsX4_init) := ggX5_init_X4_init
set_option maxRecDepth 20000 in
theorem ggX5_init_X2_init : GoodIn wsX5_init wsX2_init := goodIn_r _ [60, 61, 2, 3, 62, 63, 64, 65, 98, 99, 100, 101] (by decide +kernel) (by decide +kernel)
set_option maxRecDepth 20000 in
theorem gX5_init_X2_init : GoodIn wsX5_init (wsX2_init) := ggX5_init_X2_init
set_option maxRecDepth 20000 in
theorem ggX5_init_X1_init : GoodIn wsX5_init wsX1_init := goodIn_r _ [68, 69, 2, 3, 70, 71, 72, 73, 48, 49, 74, 75, 76, 77, 78, 79, 80, 52, 53, 54, 55, 56, 57, 102, 103, 104, 105, 106, 107, 108, 109, 110, 111, 112, 113] (by decide +kernel) (by decide +kernel)
set_option maxRecDepth 20000 in
theorem gX5_init_X1_init : GoodIn wsX5_init (wsX1_init) := ggX5_init_X1_init
theorem dX5_init_0 : decode cX5_init 0 = .ok (.aload_n 0, 1) := by decide +kernel
theorem dX5_init_1 : decode cX5_init 1 = .ok (.invokespecial 1, 3) := by decide +kernel
theorem dX5_init_4 : decode cX5_init 4 = .ok (.aload_n 0, 1) := by decide +kernel
theorem dX5_init_5 : decode cX5_init 5 = .ok (.new 7, 3) := by decide +kernel
theorem dX5_init_8 : decode cX5_init 8 = .ok (.dup, 1) := by decide +kernel
theorem dX5_init_9 : decode cX5_init 9 = .ok (.iload_n 1, 1) := by decide +kernel
theorem dX5_init_10 : decode cX5_init 10 = .ok (.iload_n 2, 1) := by decide +kernel
theorem dX5_init_11 : decode cX5_init 11 = .ok (.invokespecial 9, 3) := by decide +kernel
theorem dX5_init_14 : decode cX5_init 14 = .ok (.putfield 12, 3) := by decide +kernel
theorem dX5_init_17 : decode cX5_init 17 = .ok (.aload_n 0, 1) := by decide +kernel
theorem dX5_init_18 : decode cX5_init 18 = .ok (.new 18, 3) := by decide +kernel
theorem dX5_init_21 : decode cX5_init 21 = .ok (.dup, 1) := by decide +kernel
theorem dX5_init_22 : decode cX5_init 22 = .ok (.aload_n 0, 1) := by decide +kernel
theorem dX5_init_23 : decode cX5_init 23 = .ok (.getfield 12, 3) := by decide +kernel
theorem dX5_init_26 : decode cX5_init 26 = .ok (.invokespecial 20, 3) := by decide +kernel
theorem dX5_init_29 : decode cX5_init 29 = .ok (.putfield 23, 3) := by decide +kernel
theorem dX5_init_32 : decode cX5_init 32 = .ok (.aload_n 0, 1) := by decide +kernel
theorem dX5_init_33 : decode cX5_init 33 = .ok (.new 27, 3) := by decide +kernel
theorem dX5_init_36 : decode cX5_init 36 = .ok (.dup, 1) := by decide +kernel
theorem dX5_init_37 : decode cX5_init 37 = .ok (.aload_n 0, 1) := by decide +kernel
theorem dX5_init_38 : decode cX5_init 38 = .ok (.getfield 12, 3) := by decide +kernel
theorem dX5_init_41 : decode cX5_init 41 = .ok (.aload_n 0, 1) := by decide +kernel
theorem dX5_init_42 : decode cX5_init 42 = .ok (.getfield 23, 3) := by decide +kernel
theorem dX5_init_45 : decode cX5_init 45 = .ok (.invokespecial 29, 3) := by decide +kernel
theorem dX5_init_48 : decode cX5_init 48 = .ok (.putfield 32, 3) := by decide +kernel
theorem dX5_init_51 : decode cX5_init 51 = .ok (.aload_n 0, 1) := by decide +kernel
theorem dX5_init_52 : decode cX5_init 52 = .ok (.new 36, 3) := by decide +kernel
theorem dX5_init_55 : decode cX5_init 55 = .ok (.dup, 1) := by decide +kernel
theorem dX5_init_56 : decode cX5_init 56 = .ok (.aload_n 0, 1) := by decide +kernel
theorem dX5_init_57 : decode cX5_init 57 = .ok (.getfield 12, 3) := by decide +kernel
theorem dX5_init_60 : decode cX5_init 60 = .ok (.aload_n 0, 1) := by decide +kernel
theorem dX5_init_61 : decode cX5_init 61 = .ok (.getfield 23, 3) := by decide +kernel
theorem dX5_init_64 : decode cX5_init 64 = .ok (.aload_n 0, 1) := by decide +kernel
theorem dX5_init_65 : decode cX5_init 65 = .ok (.getfield 32, 3) := by decide +kernel
theorem dX5_init_68 : decode cX5_init 68 = .ok (.invokespecial 38, 3) := by decide +kernel
theorem dX5_init_71 : decode cX5_init 71 = .ok (.putfield 41, 3) := by decide +kernel
theorem dX5_init_74 : decode cX5_init 74 = .ok (.aload_n 0, 1) := by decide +kernel
theorem dX5_init_75 : decode cX5_init 75 = .ok (.iconst 0, 1) := by decide +kernel
theorem dX5_init_76 : decode cX5_init 76 = .ok (.putfield 45, 3) := by decide +kernel
theorem dX5_init_79 : decode cX5_init 79 = .ok (.aload_n 0, 1) := by decide +kernel
theorem dX5_init_80 : decode cX5_init 80 = .ok (.iconst 0, 1) := by decide +kernel
theorem dX5_init_81 : decode cX5_init 81 = .ok (.putfield 49, 3) := by decide +kernel
theorem dX5_init_84 : decode cX5_init 84 = .ok (.return_, 1) := by decide +kernel
set_option maxRecDepth 20000 in
theorem ggX5_out_X1_gather : GoodIn wsX5_out wsX1_gather := goodIn_r _ [11, 12, 13, 14, 15, 16, 17, 18, 19, 20, 21, 22, 23, 24, 25, 26, 27, 28, 29, 30, 31, 32, 33, 34, 35, 36, 37, 38, 39, 40, 41, 283, 284, 285, 286, 287, 288, 289, 290, 291, 292, 293, 294] (by decide +kernel) (by decide +kernel)
set_option maxRecDepth 20000 in
theorem gX5_out_X1_gather : GoodIn wsX5_out (wsV RX5 53 RX1 yX1_gather wsX1_gather) := goodIn_app (goodIn_of _ (by decide +kernel)) ggX5_out_X1_gather
set_option maxRecDepth 20000 in
theorem ggX5_out_X1_spoil : GoodIn wsX5_out wsX1_spoil := goodIn_r _ [45, 14, 283, 284, 285, 286, 287, 288, 289, 290, 291, 292] (by decide +kernel) (by decide +kernel)
set_option maxRecDepth 20000 in
theorem gX5_out_X1_spoil : GoodIn wsX5_out (wsV RX5 57 RX1 yX1_spoil wsX1_spoil) := goodIn_app (goodIn_of _ (by decide +kernel)) ggX5_out_X1_spoil
set_option maxRecDepth 20000 in
theorem ggX5_out_X1_perform : GoodIn wsX5_out wsX1_perform := goodIn_r _ [49, 50, 51, 52, 53, 54, 55, 56, 10, 57, 12, 58, 59, 60, 18, 61, 20, 21, 62, 63, 64, 65, 66, 67, 68, 35, 36, 37, 69, 70, 71, 72, 73, 74, 75, 76, 77, 78, 79, 80, 81, 25, 82, 83, 84, 85, 86, 87, 88, 89, 90, 13, 14, 91, 92, 93, 94, 95, 96, 97, 98, 99, 100, 101, 102, 103, 104, 105, 106, 107, 108, 109, 110, 111, 112, 113, 114, 115, 116, 117, 118, 119, 120, 121, 122, 123, 124, 125, 126, 127, 128, 129, 130, 131, 132, 133, 134, 135, 136, 137, 138, 139, 140, 141, 142, 143, 144, 145, 146, 147, 148, 149, 150, 151, 152, 153, 154, 155, 156, 157, 158, 159, 160, 161, 162, 163, 164, 165, 166, 167, 168, 169, 170, 171, 172, 173, 174, 175, 176, 177, 178, 179, 180, 181, 182, 183, 184, 185, 186, 187, 188, 189, 190, 191, 192, 193, 194, 195, 196, 197, 198, 199, 200, 201, 202, 203, 204, 205, 206, 207, 208, 209, 210, 211, 212, 213, 214, 215, 216, 217, 218, 219, 220, 221, 222, 223, 224, 225, 226, 227, 228, 229, 230, 231, 232, 233, 234, 235, 236, 237, 238, 239, 240, 241, 16, 17, 19, 22, 23, 24, 26, 27, 28, 29, 30, 31, 32, 33, 34, 38, 39, 40, 41, 242, 243, 244, 245, 246, 247, 248, 249, 250, 251, 252, 253, 254, 255, 256, 257, 258, 259, 260, 261, 262, 263, 264, 265, 266, 267, 283, 284, 285, 286, 287, 288, 289, 290, 291, 292, 293, 294, 295, 296, 297, 298, 299, 300, 301, 302, 279, 280, 281, 282, 303, 304, 305] (by decide +kernel) (by decide +kernel)
set_option maxRecDepth 20000 in
theorem gX5_out_X1_perform : GoodIn wsX5_out (wsV RX5 60 RX1 yX1_perform wsX1_perform) := goodIn_app (goodIn_of _ (by decide +kernel)) ggX5_out_X1_perform
set_option maxRecDepth 20000 in
theorem ggX5_out_X1_begin : GoodIn wsX5_out wsX1_begin := goodIn_r _ [271, 12, 14, 272, 207, 208, 18, 209, 20, 283, 284, 285, 286, 287, 288, 289, 290, 291, 292, 293, 294] (by decide +kernel) (by decide +kernel)
set_option maxRecDepth 20000 in
theorem gX5_out_X1_begin : GoodIn wsX5_out (wsV RX5 64 RX1 yX1_begin wsX1_begin) := goodIn_app (goodIn_of _ (by decide +kernel)) ggX5_out_X1_begin
theorem dX5_out_0 : decode cX5_out 0 = .ok (.iload_n 1, 1) := by decide +kernel
theorem dX5_out_1 : decode cX5_out 1 = .ok (.sipush 255, 3) := by decide +kernel
theorem dX5_out_4 : decode cX5_out 4 = .ok (.iand, 1) := by decide +kernel
theorem dX5_out_5 : decode cX5_out 5 = .ok (.istore_n 2, 1) := by decide +kernel
theorem dX5_out_6 : decode cX5_out 6 = .ok (.aload_n 0, 1) := by decide +kernel
theorem dX5_out_7 : decode cX5_out 7 = .ok (.getfield 45, 3) := by decide +kernel
theorem dX5_out_10 : decode cX5_out 10 = .ok (.ifCond .ne 28, 3) := by decide +kernel
theorem dX5_out_13 : decode cX5_out 13 = .ok (.iload_n 2, 1) := by decide +kernel
theorem dX5_out_14 : decode cX5_out 14 = .ok (.sipush 255, 3) := by decide +kernel
theorem dX5_out_17 : decode cX5_out 17 = .ok (.if_icmp .ne 11, 3) := by decide +kernel
theorem dX5_out_20 : decode cX5_out 20 = .ok (.aload_n 0, 1) := by decide +kernel
theorem dX5_out_21 : decode cX5_out 21 = .ok (.iconst 1, 1) := by decide +kernel
theorem dX5_out_22 : decode cX5_out 22 = .ok (.putfield 45, 3) := by decide +kernel
theorem dX5_out_25 : decode cX5_out 25 = .ok (.goto 11, 3) := by decide +kernel
theorem dX5_out_28 : decode cX5_out 28 = .ok (.aload_n 0, 1) := by decide +kernel
theorem dX5_out_29 : decode cX5_out 29 = .ok (.getfield 41, 3) := by decide +kernel
theorem dX5_out_32 : decode cX5_out 32 = .ok (.iload_n 2, 1) := by decide +kernel
theorem dX5_out_33 : decode cX5_out 33 = .ok (.invokevirtual 53, 3) := by decide +kernel
theorem dX5_out_36 : decode cX5_out 36 = .ok (.iconst 0, 1) := by decide +kernel
theorem dX5_out_37 : decode cX5_out 37 = .ok (.ireturn, 1) := by decide +kernel
theorem dX5_out_38 : decode cX5_out 38 = .ok (.aload_n 0, 1) := by decide +kernel
theorem dX5_out_39 : decode cX5_out 39 = .ok (.iconst 0, 1) := by decide +kernel
theorem dX5_out_40 : decode cX5_out 40 = .ok (.putfield 45, 3) := by decide +kernel
theorem dX5_out_43 : decode cX5_out 43 = .ok (.iload_n 2, 1) := by decide +kernel
theorem dX5_out_44 : decode cX5_out 44 = .ok (.sipush 255, 3) := by decide +kernel
theorem dX5_out_47 : decode cX5_out 47 = .ok (.if_icmp .ne 13, 3) := by decide +kernel
theorem dX5_out_50 : decode cX5_out 50 = .ok (.aload_n 0, 1) := by decide +kernel
theorem dX5_out_51 : decode cX5_out 51 = .ok (.getfield 41, 3) := by decide +kernel
theorem dX5_out_54 : decode cX5_out 54 = .ok (.iload_n 2, 1) := by decide +kernel
theorem dX5_out_55 : decode cX5_out 55 = .ok (.invokevirtual 53, 3) := by decide +kernel
theorem dX5_out_58 : decode cX5_out 58 = .ok (.iconst 0, 1) := by decide +kernel
theorem dX5_out_59 : decode cX5_out 59 = .ok (.ireturn, 1) := by decide +kernel
theorem dX5_out_60 : decode cX5_out 60 = .ok (.iload_n 2, 1) := by decide +kernel
theorem dX5_out_61 : decode cX5_out 61 = .ok (.sipush 239, 3) := by decide +kernel
theorem dX5_out_64 : decode cX5_out 64 = .ok (.if_icmp .eq 12, 3) := by decide +kernel
theorem dX5_out_67 : decode cX5_out 67 = .ok (.aload_n 0, 1) := by decide +kernel
theorem dX5_out_68 : decode cX5_out 68 = .ok (.getfield 41, 3) := by decide +kernel
theorem dX5_out_71 : decode cX5_out 71 = .ok (.invokevirtual 57, 3) := by decide +kernel
theorem dX5_out_74 : decode cX5_out 74 = .ok (.iconst 0, 1) := by decide +kernel
theorem dX5_out_75 : decode cX5_out 75 = .ok (.ireturn, 1) := by decide +kernel
theorem dX5_out_76 : decode cX5_out 76 = .ok (.aload_n 0, 1) := by decide +kernel
theorem dX5_out_77 : decode cX5_out 77 = .ok (.getfield 41, 3) := by decide +kernel
theorem dX5_out_80 : decode cX5_out 80 = .ok (.invokevirtual 60, 3) := by decide +kernel
theorem dX5_out_83 : decode cX5_out 83 = .ok (.istore_n 3, 1) := by decide +kernel
theorem dX5_out_84 : decode cX5_out 84 = .ok (.aload_n 0, 1) := by decide +kernel
theorem dX5_out_85 : decode cX5_out 85 = .ok (.getfield 41, 3) := by decide +kernel
theorem dX5_out_88 : decode cX5_out 88 = .ok (.invokevirtual 64, 3) := by decide +kernel
theorem dX5_out_91 : decode cX5_out 91 = .ok (.iload_n 3, 1) := by decide +kernel
theorem dX5_out_92 : decode cX5_out 92 = .ok (.ifCond .ne 23, 3) := by decide +kernel
theorem dX5_out_95 : decode cX5_out 95 = .ok (.aload_n 0, 1) := by decide +kernel
theorem dX5_out_96 : decode cX5_out 96 = .ok (.dup, 1) := by decide +kernel
theorem dX5_out_97 : decode cX5_out 97 = .ok (.getfield 49, 3) := by decide +kernel
theorem dX5_out_100 : decode cX5_out 100 = .ok (.iconst 1, 1) := by decide +kernel
theorem dX5_out_101 : decode cX5_out 101 = .ok (.iadd, 1) := by decide +kernel
theorem dX5_out_102 : decode cX5_out 102 = .ok (.putfield 49, 3) := by decide +kernel
theorem dX5_out_105 : decode cX5_out 105 = .ok (.aload_n 0, 1) := by decide +kernel
theorem dX5_out_106 : decode cX5_out 106 = .ok (.getfield 32, 3) := by decide +kernel
theorem dX5_out_109 : decode cX5_out 109 = .ok (.iconst 1, 1) := by decide +kernel
theorem dX5_out_110 : decode cX5_out 110 = .ok (.putfield 67, 3) := by decide +kernel
theorem dX5_out_113 : decode cX5_out 113 = .ok (.iconst (-1), 1) := by decide +kernel
theorem dX5_out_114 : decode cX5_out 114 = .ok (.ireturn, 1) := by decide +kernel
theorem dX5_out_115 : decode cX5_out 115 = .ok (.iconst 1, 1) := by decide +kernel
theorem dX5_out_116 : decode cX5_out 116 = .ok (.aload_n 0, 1) := by decide +kernel
theorem dX5_out_117 : decode cX5_out 117 = .ok (.getfield 41, 3) := by decide +kernel
theorem dX5_out_120 : decode cX5_out 120 = .ok (.getfield 70, 3) := by decide +kernel
theorem dX5_out_123 : decode cX5_out 123 = .ok (.iadd, 1) := by decide +kernel
theorem dX5_out_124 : decode cX5_out 124 = .ok (.ireturn, 1) := by decide +kernel
set_option maxRecDepth 20000 in
theorem ggX5_sign_X3_contains : GoodIn wsX5_sign wsX3_contains := goodIn_r _ [6, 7, 8, 24, 25, 26, 27, 28, 29, 30, 31] (by decide +kernel) (by decide +kernel)
set_option maxRecDepth 20000 in
theorem gX5_sign_X3_contains : GoodIn wsX5_sign (wsV RX5 73 RX3 yX3_contains wsX3_contains) := goodIn_app (goodIn_of _ (by decide +kernel)) ggX5_sign_X3_contains
set_option maxRecDepth 20000 in
theorem ggX5_sign_X3_addressOf : GoodIn wsX5_sign wsX3_addressOf := goodIn_r _ [12, 8, 24, 25, 26, 27, 28, 29, 30, 31] (by decide +kernel) (by decide +kernel)
set_option maxRecDepth 20000 in
theorem gX5_sign_X3_addressOf : GoodIn wsX5_sign (wsV RX5 77 RX3 yX3_addressOf wsX3_addressOf) := goodIn_app (goodIn_of _ (by decide +kernel)) ggX5_sign_X3_addressOf
set_option maxRecDepth 20000 in
theorem ggX5_sign_X3_get : GoodIn wsX5_sign wsX3_get := goodIn_r _ [16, 17, 24, 25, 26, 27, 28, 29, 30, 31] (by decide +kernel) (by decide +kernel)
set_option maxRecDepth 20000 in
theorem gX5_sign_X3_get : GoodIn wsX5_sign (wsV RX5 81 RX3 yX3_get wsX3_get) := goodIn_app (goodIn_of _ (by decide +kernel)) ggX5_sign_X3_get
theorem dX5_sign_0 : decode cX5_sign 0 = .ok (.aload_n 0, 1) := by decide +kernel
theorem dX5_sign_1 : decode cX5_sign 1 = .ok (.getfield 12, 3) := by decide +kernel
theorem dX5_sign_4 : decode cX5_sign 4 = .ok (.iload_n 1, 1) := by decide +kernel
theorem dX5_sign_5 : decode cX5_sign 5 = .ok (.iload_n 2, 1) := by decide +kernel
theorem dX5_sign_6 : decode cX5_sign 6 = .ok (.invokevirtual 73, 3) := by decide +kernel
theorem dX5_sign_9 : decode cX5_sign 9 = .ok (.ifCond .ne 6, 3) := by decide +kernel
theorem dX5_sign_12 : decode cX5_sign 12 = .ok (.bipush (-2), 2) := by decide +kernel
theorem dX5_sign_14 : decode cX5_sign 14 = .ok (.ireturn, 1) := by decide +kernel
theorem dX5_sign_15 : decode cX5_sign 15 = .ok (.aload_n 0, 1) := by decide +kernel
theorem dX5_sign_16 : decode cX5_sign 16 = .ok (.getfield 12, 3) := by decide +kernel
theorem dX5_sign_19 : decode cX5_sign 19 = .ok (.aload_n 0, 1) := by decide +kernel
theorem dX5_sign_20 : decode cX5_sign 20 = .ok (.getfield 12, 3) := by decide +kernel
theorem dX5_sign_23 : decode cX5_sign 23 = .ok (.iload_n 1, 1) := by decide +kernel
theorem dX5_sign_24 : decode cX5_sign 24 = .ok (.iload_n 2, 1) := by decide +kernel
theorem dX5_sign_25 : decode cX5_sign 25 = .ok (.invokevirtual 77, 3) := by decide +kernel
theorem dX5_sign_28 : decode cX5_sign 28 = .ok (.invokevirtual 81, 3) := by decide +kernel
theorem dX5_sign_31 : decode cX5_sign 31 = .ok (.istore_n 3, 1) := by decide +kernel
theorem dX5_sign_32 : decode cX5_sign 32 = .ok (.iload_n 3, 1) := by decide +kernel
theorem dX5_sign_33 : decode cX5_sign 33 = .ok (.sipush 256, 3) := by decide +kernel
theorem dX5_sign_36 : decode cX5_sign 36 = .ok (.if_icmp .lt 7, 3) := by decide +kernel
theorem dX5_sign_39 : decode cX5_sign 39 = .ok (.iconst (-1), 1) := by decide +kernel
theorem dX5_sign_40 : decode cX5_sign 40 = .ok (.goto 4, 3) := by decide +kernel
theorem dX5_sign_43 : decode cX5_sign 43 = .ok (.iload_n 3, 1) := by decide +kernel
theorem dX5_sign_44 : decode cX5_sign 44 = .ok (.ireturn, 1) := by decide +kernel
set_option maxRecDepth 20000 in
theorem ggX5_attribute_X3_contains : GoodIn wsX5_attribute wsX3_contains := goodIn_r _ [6, 7, 8, 39, 40, 41, 42, 43, 44, 45, 46] (by decide +kernel) (by decide +kernel)
set_option maxRecDepth 20000 in
theorem gX5_attribute_X3_contains : GoodIn wsX5_attribute (wsV RX5 73 RX3 yX3_contains wsX3_contains) := goodIn_app (goodIn_of _ (by decide +kernel)) ggX5_attribute_X3_contains
set_option maxRecDepth 20000 in
theorem ggX5_attribute_X3_addressOf : GoodIn wsX5_attribute wsX3_addressOf := goodIn_r _ [12, 8, 39, 40, 41, 42, 43, 44, 45, 46] (by decide +kernel) (by decide +kernel)
set_option maxRecDepth 20000 in
theorem gX5_attribute_X3_addressOf : GoodIn wsX5_attribute (wsV RX5 77 RX3 yX3_addressOf wsX3_addressOf) := goodIn_app (goodIn_of _ (by decide +kernel)) ggX5_attribute_X3_addressOf
set_option maxRecDepth 20000 in
theorem ggX5_attribute_X3_get : GoodIn wsX5_attribute wsX3_get := goodIn_r _ [16, 17, 39, 40, 41, 42, 43, 44, 45, 46] (by decide +kernel) (by decide +kernel)
set_option maxRecDepth 20000 in
theorem gX5_attribute_X3_get : GoodIn wsX5_attribute (wsV RX5 81 RX3 yX3_get wsX3_get) := goodIn_app (goodIn_of _ (by decide +kernel)) ggX5_attribute_X3_get
set_option maxRecDepth 20000 in
theorem ggX5_attribute_X3_attributeOver : GoodIn wsX5_attribute wsX3_attributeOver := goodIn_r _ [21, 22, 23, 24, 5, 25, 26, 27, 28, 14, 15, 16, 17, 29, 30, 31, 32, 39, 40, 41, 42, 43, 44, 45, 46] (by decide +kernel) (by decide +kernel)
set_option maxRecDepth 20000 in
theorem gX5_attribute_X3_attributeOver : GoodIn wsX5_attribute (wsV RX5 85 RX3 yX3_attributeOver wsX3_attributeOver) := goodIn_app (goodIn_of _ (by decide +kernel)) ggX5_attribute_X3_attributeOver
theorem dX5_attribute_0 : decode cX5_attribute 0 = .ok (.aload_n 0, 1) := by decide +kernel
theorem dX5_attribute_1 : decode cX5_attribute 1 = .ok (.getfield 12, 3) := by decide +kernel
theorem dX5_attribute_4 : decode cX5_attribute 4 = .ok (.iload_n 1, 1) := by decide +kernel
theorem dX5_attribute_5 : decode cX5_attribute 5 = .ok (.iload_n 2, 1) := by decide +kernel
theorem dX5_attribute_6 : decode cX5_attribute 6 = .ok (.invokevirtual 73, 3) := by decide +kernel
theorem dX5_attribute_9 : decode cX5_attribute 9 = .ok (.ifCond .ne 6, 3) := by decide +kernel
theorem dX5_attribute_12 : decode cX5_attribute 12 = .ok (.bipush (-2), 2) := by decide +kernel
theorem dX5_attribute_14 : decode cX5_attribute 14 = .ok (.ireturn, 1) := by decide +kernel
theorem dX5_attribute_15 : decode cX5_attribute 15 = .ok (.aload_n 0, 1) := by decide +kernel
theorem dX5_attribute_16 : decode cX5_attribute 16 = .ok (.getfield 12, 3) := by decide +kernel
theorem dX5_attribute_19 : decode cX5_attribute 19 = .ok (.iload_n 1, 1) := by decide +kernel
theorem dX5_attribute_20 : decode cX5_attribute 20 = .ok (.iload_n 2, 1) := by decide +kernel
theorem dX5_attribute_21 : decode cX5_attribute 21 = .ok (.invokevirtual 77, 3) := by decide +kernel
theorem dX5_attribute_24 : decode cX5_attribute 24 = .ok (.istore_n 3, 1) := by decide +kernel
theorem dX5_attribute_25 : decode cX5_attribute 25 = .ok (.aload_n 0, 1) := by decide +kernel
theorem dX5_attribute_26 : decode cX5_attribute 26 = .ok (.getfield 12, 3) := by decide +kernel
theorem dX5_attribute_29 : decode cX5_attribute 29 = .ok (.iload_n 3, 1) := by decide +kernel
theorem dX5_attribute_30 : decode cX5_attribute 30 = .ok (.invokevirtual 81, 3) := by decide +kernel
theorem dX5_attribute_33 : decode cX5_attribute 33 = .ok (.istore 4, 2) := by decide +kernel
theorem dX5_attribute_35 : decode cX5_attribute 35 = .ok (.iload 4, 2) := by decide +kernel
theorem dX5_attribute_37 : decode cX5_attribute 37 = .ok (.sipush 256, 3) := by decide +kernel
theorem dX5_attribute_40 : decode cX5_attribute 40 = .ok (.if_icmp .lt 8, 3) := by decide +kernel
theorem dX5_attribute_43 : decode cX5_attribute 43 = .ok (.iload 4, 2) := by decide +kernel
theorem dX5_attribute_45 : decode cX5_attribute 45 = .ok (.goto 11, 3) := by decide +kernel
theorem dX5_attribute_48 : decode cX5_attribute 48 = .ok (.aload_n 0, 1) := by decide +kernel
theorem dX5_attribute_49 : decode cX5_attribute 49 = .ok (.getfield 12, 3) := by decide +kernel
theorem dX5_attribute_52 : decode cX5_attribute 52 = .ok (.iload_n 3, 1) := by decide +kernel
theorem dX5_attribute_53 : decode cX5_attribute 53 = .ok (.invokevirtual 85, 3) := by decide +kernel
theorem dX5_attribute_56 : decode cX5_attribute 56 = .ok (.ireturn, 1) := by decide +kernel
set_option maxRecDepth 20000 in
theorem ggX5_key_X2_press : GoodIn wsX5_key wsX2_press := goodIn_r _ [6, 7, 8, 9, 10, 11, 12, 5, 13, 14, 15, 16, 17, 18, 19, 20, 21, 22, 23, 24, 25, 26, 27, 28, 29, 30, 31, 32, 33, 34, 35, 36, 37, 38, 39, 40, 41, 42, 43, 44, 45, 46, 47, 48, 49, 50, 51, 52, 53, 54, 55, 56, 57, 58, 59, 60, 61, 62, 63, 64, 65, 66, 67, 68, 69, 70, 71, 72, 73, 74, 75, 76, 77, 78, 79, 80, 81, 82, 83, 84, 85, 86, 87, 88, 89, 90, 91, 92, 93, 94, 95, 96, 97, 98, 99, 100, 101, 102, 103, 104, 105, 106, 107, 108, 109, 110, 111, 112, 113, 114, 115, 116, 117, 118, 119, 120, 121, 122, 123, 124, 125, 126, 127, 128, 129, 130, 131, 132, 133, 134, 135, 136, 137, 138, 139, 140, 141, 142, 143, 144, 145, 146, 147, 148, 149, 150, 151, 152, 153, 154, 155, 156, 157, 158, 159, 160, 161, 162, 163, 164, 165, 166, 167, 168, 169, 170, 171, 172, 173, 174, 175, 176, 177, 178, 179, 180, 181, 182, 183, 184, 185, 186, 187, 188, 189, 190, 191, 192, 193, 194, 195, 196, 197, 198, 199, 200, 201, 202, 203, 204, 205, 206, 207, 208, 209, 210, 211, 212, 213, 220, 221, 222, 223, 224, 225, 226, 227, 228, 229, 230, 231, 232, 233, 234, 235, 236] (by decide +kernel) (by decide +kernel)
set_option maxRecDepth 20000 in
theorem gX5_key_X2_press : GoodIn wsX5_key (wsV RX5 88 RX2 yX2_press wsX2_press) := goodIn_app (goodIn_of _ (by decide +kernel)) ggX5_key_X2_press
theorem dX5_key_0 : decode cX5_key 0 = .ok (.aload_n 0, 1) := by decide +kernel
theorem dX5_key_1 : decode cX5_key 1 = .ok (.getfield 32, 3) := by decide +kernel
theorem dX5_key_4 : decode cX5_key 4 = .ok (.iload_n 1, 1) := by decide +kernel
theorem dX5_key_5 : decode cX5_key 5 = .ok (.invokevirtual 88, 3) := by decide +kernel
theorem dX5_key_8 : decode cX5_key 8 = .ok (.ireturn, 1) := by decide +kernel
set_option maxRecDepth 20000 in
theorem ggX5_type_X2_enter : GoodIn wsX5_type wsX2_enter := goodIn_r _ [6, 7, 8, 9, 10, 11, 12, 13, 5, 14, 15, 16, 17, 18, 19, 20, 21, 22, 23, 24, 25, 26, 27, 28, 29, 30, 31, 32, 33, 34, 35, 36, 37, 38, 39, 40, 41, 42, 43, 44, 45, 46, 47, 48, 49, 50, 51, 52, 53, 54, 55, 56, 57, 58, 59, 60, 61, 62, 63, 64, 65, 66, 67, 68, 69, 70, 71, 72, 73, 74, 75, 76, 77, 78, 79, 80, 81, 82, 83, 84, 85, 92, 93, 94, 95, 96, 97, 98, 99, 100, 101, 102, 103] (by decide +kernel) (by decide +kernel)
set_option maxRecDepth 20000 in
theorem gX5_type_X2_enter : GoodIn wsX5_type (wsV RX5 91 RX2 yX2_enter wsX2_enter) := goodIn_app (goodIn_of _ (by decide +kernel)) ggX5_type_X2_enter
theorem dX5_type_0 : decode cX5_type 0 = .ok (.aload_n 0, 1) := by decide +kernel
theorem dX5_type_1 : decode cX5_type 1 = .ok (.getfield 32, 3) := by decide +kernel
theorem dX5_type_4 : decode cX5_type 4 = .ok (.iload_n 1, 1) := by decide +kernel
theorem dX5_type_5 : decode cX5_type 5 = .ok (.invokevirtual 91, 3) := by decide +kernel
theorem dX5_type_8 : decode cX5_type 8 = .ok (.ireturn, 1) := by decide +kernel
theorem dX5_inbound_0 : decode cX5_inbound 0 = .ok (.aload_n 0, 1) := by decide +kernel
theorem dX5_inbound_1 : decode cX5_inbound 1 = .ok (.getfield 23, 3) := by decide +kernel
theorem dX5_inbound_4 : decode cX5_inbound 4 = .ok (.getfield 94, 3) := by decide +kernel
theorem dX5_inbound_7 : decode cX5_inbound 7 = .ok (.getfield 98, 3) := by decide +kernel
theorem dX5_inbound_10 : decode cX5_inbound 10 = .ok (.ireturn, 1) := by decide +kernel
set_option maxRecDepth 20000 in
theorem ggX5_octet_X0_get : GoodIn wsX5_octet wsX0_get := goodIn_r _ [11, 12, 13, 23, 24] (by decide +kernel) (by decide +kernel)
set_option maxRecDepth 20000 in
theorem gX5_octet_X0_get : GoodIn wsX5_octet (wsV RX5 110 RX0 yX0_get wsX0_get) := goodIn_app (goodIn_of _ (by decide +kernel)) ggX5_octet_X0_get
theorem dX5_octet_0 : decode cX5_octet 0 = .ok (.iload_n 1, 1) := by decide +kernel
theorem dX5_octet_1 : decode cX5_octet 1 = .ok (.ifCond .lt 17, 3) := by decide +kernel
theorem dX5_octet_4 : decode cX5_octet 4 = .ok (.iload_n 1, 1) := by decide +kernel
theorem dX5_octet_5 : decode cX5_octet 5 = .ok (.aload_n 0, 1) := by decide +kernel
theorem dX5_octet_6 : decode cX5_octet 6 = .ok (.getfield 23, 3) := by decide +kernel
theorem dX5_octet_9 : decode cX5_octet 9 = .ok (.getfield 94, 3) := by decide +kernel
theorem dX5_octet_12 : decode cX5_octet 12 = .ok (.getfield 98, 3) := by decide +kernel
theorem dX5_octet_15 : decode cX5_octet 15 = .ok (.if_icmp .lt 13, 3) := by decide +kernel
theorem dX5_octet_18 : decode cX5_octet 18 = .ok (.new 103, 3) := by decide +kernel
theorem dX5_octet_21 : decode cX5_octet 21 = .ok (.dup, 1) := by decide +kernel
theorem dX5_octet_22 : decode cX5_octet 22 = .ok (.ldc 105, 2) := by decide +kernel
theorem dX5_octet_24 : decode cX5_octet 24 = .ok (.invokespecial 107, 3) := by decide +kernel
theorem dX5_octet_27 : decode cX5_octet 27 = .ok (.athrow, 1) := by decide +kernel
theorem dX5_octet_28 : decode cX5_octet 28 = .ok (.aload_n 0, 1) := by decide +kernel
theorem dX5_octet_29 : decode cX5_octet 29 = .ok (.getfield 23, 3) := by decide +kernel
theorem dX5_octet_32 : decode cX5_octet 32 = .ok (.getfield 94, 3) := by decide +kernel
theorem dX5_octet_35 : decode cX5_octet 35 = .ok (.iload_n 1, 1) := by decide +kernel
theorem dX5_octet_36 : decode cX5_octet 36 = .ok (.invokevirtual 110, 3) := by decide +kernel
theorem dX5_octet_39 : decode cX5_octet 39 = .ok (.i2b, 1) := by decide +kernel
theorem dX5_octet_40 : decode cX5_octet 40 = .ok (.ireturn, 1) := by decide +kernel
set_option maxRecDepth 20000 in
theorem ggX5_field_X3_startOfField : GoodIn wsX5_field wsX3_startOfField := goodIn_r _ [6, 7, 8, 9, 10, 11, 5, 12, 13, 46, 47, 48, 49, 50, 51, 52, 53] (by decide +kernel) (by decide +kernel)
set_option maxRecDepth 20000 in
theorem gX5_field_X3_startOfField : GoodIn wsX5_field (wsV RX5 111 RX3 yX3_startOfField wsX3_startOfField) := goodIn_app (goodIn_of _ (by decide +kernel)) ggX5_field_X3_startOfField
set_option maxRecDepth 20000 in
theorem ggX5_field_X3_attributeOver : GoodIn wsX5_field wsX3_attributeOver := goodIn_r _ [17, 18, 19, 20, 5, 21, 7, 8, 9, 10, 11, 12, 13, 22, 23, 24, 25, 46, 47, 48, 49, 50, 51, 52, 53] (by decide +kernel) (by decide +kernel)
set_option maxRecDepth 20000 in
theorem gX5_field_X3_attributeOver : GoodIn wsX5_field (wsV RX5 85 RX3 yX3_attributeOver wsX3_attributeOver) := goodIn_app (goodIn_of _ (by decide +kernel)) ggX5_field_X3_attributeOver
set_option maxRecDepth 20000 in
theorem ggX5_field_X3_after : GoodIn wsX5_field wsX3_after := goodIn_r _ [29, 8, 46, 47, 48, 49, 50, 51, 52, 53] (by decide +kernel) (by decide +kernel)
set_option maxRecDepth 20000 in
theorem gX5_field_X3_after : GoodIn wsX5_field (wsV RX5 114 RX3 yX3_after wsX3_after) := goodIn_app (goodIn_of _ (by decide +kernel)) ggX5_field_X3_after
set_option maxRecDepth 20000 in
theorem ggX5_field_X3_cellsToFieldEnd : GoodIn wsX5_field wsX3_cellsToFieldEnd := goodIn_r _ [33, 7, 8, 9, 10, 11, 5, 12, 13, 34, 27, 28, 29, 46, 47, 48, 49, 50, 51, 52, 53] (by decide +kernel) (by decide +kernel)
set_option maxRecDepth 20000 in
theorem gX5_field_X3_cellsToFieldEnd : GoodIn wsX5_field (wsV RX5 117 RX3 yX3_cellsToFieldEnd wsX3_cellsToFieldEnd) := goodIn_app (goodIn_of _ (by decide +kernel)) ggX5_field_X3_cellsToFieldEnd
set_option maxRecDepth 20000 in
theorem ggX5_field_X3_signsOfField : GoodIn wsX5_field wsX3_signsOfField := goodIn_r _ [38, 34, 27, 28, 5, 29, 8, 39, 31, 32, 33, 7, 9, 10, 11, 12, 13, 46, 47, 48, 49, 50, 51, 52, 53] (by decide +kernel) (by decide +kernel)
set_option maxRecDepth 20000 in
theorem gX5_field_X3_signsOfField : GoodIn wsX5_field (wsV RX5 120 RX3 yX3_signsOfField wsX3_signsOfField) := goodIn_app (goodIn_of _ (by decide +kernel)) ggX5_field_X3_signsOfField
theorem dX5_field_0 : decode cX5_field 0 = .ok (.aload_n 0, 1) := by decide +kernel
theorem dX5_field_1 : decode cX5_field 1 = .ok (.getfield 12, 3) := by decide +kernel
theorem dX5_field_4 : decode cX5_field 4 = .ok (.iload_n 1, 1) := by decide +kernel
theorem dX5_field_5 : decode cX5_field 5 = .ok (.invokevirtual 111, 3) := by decide +kernel
theorem dX5_field_8 : decode cX5_field 8 = .ok (.istore_n 3, 1) := by decide +kernel
theorem dX5_field_9 : decode cX5_field 9 = .ok (.iload_n 3, 1) := by decide +kernel
theorem dX5_field_10 : decode cX5_field 10 = .ok (.iconst (-1), 1) := by decide +kernel
theorem dX5_field_11 : decode cX5_field 11 = .ok (.if_icmp .ne 5, 3) := by decide +kernel
theorem dX5_field_14 : decode cX5_field 14 = .ok (.iconst (-1), 1) := by decide +kernel
theorem dX5_field_15 : decode cX5_field 15 = .ok (.ireturn, 1) := by decide +kernel
theorem dX5_field_16 : decode cX5_field 16 = .ok (.iload_n 2, 1) := by decide +kernel
theorem dX5_field_17 : decode cX5_field 17 = .ok (.tableswitch 67 0 3 #[31, 33, 42, 58], 31) := by decide +kernel
theorem dX5_field_48 : decode cX5_field 48 = .ok (.iload_n 3, 1) := by decide +kernel
theorem dX5_field_49 : decode cX5_field 49 = .ok (.ireturn, 1) := by decide +kernel
theorem dX5_field_50 : decode cX5_field 50 = .ok (.aload_n 0, 1) := by decide +kernel
theorem dX5_field_51 : decode cX5_field 51 = .ok (.getfield 12, 3) := by decide +kernel
theorem dX5_field_54 : decode cX5_field 54 = .ok (.iload_n 3, 1) := by decide +kernel
theorem dX5_field_55 : decode cX5_field 55 = .ok (.invokevirtual 85, 3) := by decide +kernel
theorem dX5_field_58 : decode cX5_field 58 = .ok (.ireturn, 1) := by decide +kernel
theorem dX5_field_59 : decode cX5_field 59 = .ok (.aload_n 0, 1) := by decide +kernel
theorem dX5_field_60 : decode cX5_field 60 = .ok (.getfield 12, 3) := by decide +kernel
theorem dX5_field_63 : decode cX5_field 63 = .ok (.aload_n 0, 1) := by decide +kernel
theorem dX5_field_64 : decode cX5_field 64 = .ok (.getfield 12, 3) := by decide +kernel
theorem dX5_field_67 : decode cX5_field 67 = .ok (.iload_n 3, 1) := by decide +kernel
theorem dX5_field_68 : decode cX5_field 68 = .ok (.invokevirtual 114, 3) := by decide +kernel
theorem dX5_field_71 : decode cX5_field 71 = .ok (.invokevirtual 117, 3) := by decide +kernel
theorem dX5_field_74 : decode cX5_field 74 = .ok (.ireturn, 1) := by decide +kernel
theorem dX5_field_75 : decode cX5_field 75 = .ok (.aload_n 0, 1) := by decide +kernel
theorem dX5_field_76 : decode cX5_field 76 = .ok (.getfield 12, 3) := by decide +kernel
theorem dX5_field_79 : decode cX5_field 79 = .ok (.iload_n 3, 1) := by decide +kernel
theorem dX5_field_80 : decode cX5_field 80 = .ok (.invokevirtual 120, 3) := by decide +kernel
theorem dX5_field_83 : decode cX5_field 83 = .ok (.ireturn, 1) := by decide +kernel
theorem dX5_field_84 : decode cX5_field 84 = .ok (.iconst (-1), 1) := by decide +kernel
theorem dX5_field_85 : decode cX5_field 85 = .ok (.ireturn, 1) := by decide +kernel
theorem dX5_cursor_0 : decode cX5_cursor 0 = .ok (.aload_n 0, 1) := by decide +kernel
theorem dX5_cursor_1 : decode cX5_cursor 1 = .ok (.getfield 12, 3) := by decide +kernel
theorem dX5_cursor_4 : decode cX5_cursor 4 = .ok (.getfield 123, 3) := by decide +kernel
theorem dX5_cursor_7 : decode cX5_cursor 7 = .ok (.ireturn, 1) := by decide +kernel
theorem dX5_locked_0 : decode cX5_locked 0 = .ok (.aload_n 0, 1) := by decide +kernel
theorem dX5_locked_1 : decode cX5_locked 1 = .ok (.getfield 32, 3) := by decide +kernel
theorem dX5_locked_4 : decode cX5_locked 4 = .ok (.getfield 67, 3) := by decide +kernel
theorem dX5_locked_7 : decode cX5_locked 7 = .ok (.ireturn, 1) := by decide +kernel
set_option maxRecDepth 20000 in
theorem ggX5_modified_X3_startOfField : GoodIn wsX5_modified wsX3_startOfField := goodIn_r _ [6, 7, 8, 9, 10, 11, 5, 12, 13, 21, 22, 23, 24, 25, 26, 27, 28] (by decide +kernel) (by decide +kernel)
set_option maxRecDepth 20000 in
theorem gX5_modified_X3_startOfField : GoodIn wsX5_modified (wsV RX5 111 RX3 yX3_startOfField wsX3_startOfField) := goodIn_app (goodIn_of _ (by decide +kernel)) ggX5_modified_X3_startOfField
set_option maxRecDepth 20000 in
theorem ggX5_modified_X3_get : GoodIn wsX5_modified wsX3_get := goodIn_r _ [12, 13, 21, 22, 23, 24, 25, 26, 27, 28] (by decide +kernel) (by decide +kernel)
set_option maxRecDepth 20000 in
theorem gX5_modified_X3_get : GoodIn wsX5_modified (wsV RX5 81 RX3 yX3_get wsX3_get) := goodIn_app (goodIn_of _ (by decide +kernel)) ggX5_modified_X3_get
theorem dX5_modified_0 : decode cX5_modified 0 = .ok (.aload_n 0, 1) := by decide +kernel
theorem dX5_modified_1 : decode cX5_modified 1 = .ok (.getfield 12, 3) := by decide +kernel
theorem dX5_modified_4 : decode cX5_modified 4 = .ok (.iload_n 1, 1) := by decide +kernel
theorem dX5_modified_5 : decode cX5_modified 5 = .ok (.invokevirtual 111, 3) := by decide +kernel
theorem dX5_modified_8 : decode cX5_modified 8 = .ok (.istore_n 2, 1) := by decide +kernel
theorem dX5_modified_9 : decode cX5_modified 9 = .ok (.iload_n 2, 1) := by decide +kernel
theorem dX5_modified_10 : decode cX5_modified 10 = .ok (.iconst (-1), 1) := by decide +kernel
theorem dX5_modified_11 : decode cX5_modified 11 = .ok (.if_icmp .eq 20, 3) := by decide +kernel
theorem dX5_modified_14 : decode cX5_modified 14 = .ok (.aload_n 0, 1) := by decide +kernel
theorem dX5_modified_15 : decode cX5_modified 15 = .ok (.getfield 12, 3) := by decide +kernel
theorem dX5_modified_18 : decode cX5_modified 18 = .ok (.iload_n 2, 1) := by decide +kernel
theorem dX5_modified_19 : decode cX5_modified 19 = .ok (.invokevirtual 81, 3) := by decide +kernel
theorem dX5_modified_22 : decode cX5_modified 22 = .ok (.iconst 1, 1) := by decide +kernel
theorem dX5_modified_23 : decode cX5_modified 23 = .ok (.iand, 1) := by decide +kernel
theorem dX5_modified_24 : decode cX5_modified 24 = .ok (.ifCond .eq 7, 3) := by decide +kernel
theorem dX5_modified_27 : decode cX5_modified 27 = .ok (.iconst 1, 1) := by decide +kernel
theorem dX5_modified_28 : decode cX5_modified 28 = .ok (.goto 4, 3) := by decide +kernel
theorem dX5_modified_31 : decode cX5_modified 31 = .ok (.iconst 0, 1) := by decide +kernel
theorem dX5_modified_32 : decode cX5_modified 32 = .ok (.ireturn, 1) := by decide +kernel
set_option maxRecDepth 20000 in
theorem ggX5_cell_X3_get : GoodIn wsX5_cell wsX3_get := goodIn_r _ [10, 11, 18, 19, 20, 21, 22, 23, 24, 25] (by decide +kernel) (by decide +kernel)
set_option maxRecDepth 20000 in
theorem gX5_cell_X3_get : GoodIn wsX5_cell (wsV RX5 81 RX3 yX3_get wsX3_get) := goodIn_app (goodIn_of _ (by decide +kernel)) ggX5_cell_X3_get
theorem dX5_cell_0 : decode cX5_cell 0 = .ok (.iload_n 1, 1) := by decide +kernel
theorem dX5_cell_1 : decode cX5_cell 1 = .ok (.ifCond .lt 14, 3) := by decide +kernel
theorem dX5_cell_4 : decode cX5_cell 4 = .ok (.iload_n 1, 1) := by decide +kernel
theorem dX5_cell_5 : decode cX5_cell 5 = .ok (.aload_n 0, 1) := by decide +kernel
theorem dX5_cell_6 : decode cX5_cell 6 = .ok (.getfield 12, 3) := by decide +kernel
theorem dX5_cell_9 : decode cX5_cell 9 = .ok (.getfield 126, 3) := by decide +kernel
theorem dX5_cell_12 : decode cX5_cell 12 = .ok (.if_icmp .lt 13, 3) := by decide +kernel
theorem dX5_cell_15 : decode cX5_cell 15 = .ok (.new 103, 3) := by decide +kernel
theorem dX5_cell_18 : decode cX5_cell 18 = .ok (.dup, 1) := by decide +kernel
theorem dX5_cell_19 : decode cX5_cell 19 = .ok (.ldc 129, 2) := by decide +kernel
theorem dX5_cell_21 : decode cX5_cell 21 = .ok (.invokespecial 107, 3) := by decide +kernel
theorem dX5_cell_24 : decode cX5_cell 24 = .ok (.athrow, 1) := by decide +kernel
theorem dX5_cell_25 : decode cX5_cell 25 = .ok (.aload_n 0, 1) := by decide +kernel
theorem dX5_cell_26 : decode cX5_cell 26 = .ok (.getfield 12, 3) := by decide +kernel
theorem dX5_cell_29 : decode cX5_cell 29 = .ok (.iload_n 1, 1) := by decide +kernel
theorem dX5_cell_30 : decode cX5_cell 30 = .ok (.invokevirtual 81, 3) := by decide +kernel
theorem dX5_cell_33 : decode cX5_cell 33 = .ok (.ireturn, 1) := by decide +kernel
theorem dX5_count_0 : decode cX5_count 0 = .ok (.iload_n 1, 1) := by decide +kernel
theorem dX5_count_1 : decode cX5_count 1 = .ok (.tableswitch 104 0 6 #[43, 51, 59, 67, 75, 80, 96], 43) := by decide +kernel
theorem dX5_count_44 : decode cX5_count 44 = .ok (.aload_n 0, 1) := by decide +kernel
theorem dX5_count_45 : decode cX5_count 45 = .ok (.getfield 12, 3) := by decide +kernel
theorem dX5_count_48 : decode cX5_count 48 = .ok (.getfield 131, 3) := by decide +kernel
theorem dX5_count_51 : decode cX5_count 51 = .ok (.ireturn, 1) := by decide +kernel
theorem dX5_count_52 : decode cX5_count 52 = .ok (.aload_n 0, 1) := by decide +kernel
theorem dX5_count_53 : decode cX5_count 53 = .ok (.getfield 12, 3) := by decide +kernel
theorem dX5_count_56 : decode cX5_count 56 = .ok (.getfield 134, 3) := by decide +kernel
theorem dX5_count_59 : decode cX5_count 59 = .ok (.ireturn, 1) := by decide +kernel
theorem dX5_count_60 : decode cX5_count 60 = .ok (.aload_n 0, 1) := by decide +kernel
theorem dX5_count_61 : decode cX5_count 61 = .ok (.getfield 12, 3) := by decide +kernel
theorem dX5_count_64 : decode cX5_count 64 = .ok (.getfield 137, 3) := by decide +kernel
theorem dX5_count_67 : decode cX5_count 67 = .ok (.ireturn, 1) := by decide +kernel
theorem dX5_count_68 : decode cX5_count 68 = .ok (.aload_n 0, 1) := by decide +kernel
theorem dX5_count_69 : decode cX5_count 69 = .ok (.getfield 41, 3) := by decide +kernel
theorem dX5_count_72 : decode cX5_count 72 = .ok (.getfield 140, 3) := by decide +kernel
theorem dX5_count_75 : decode cX5_count 75 = .ok (.ireturn, 1) := by decide +kernel
theorem dX5_count_76 : decode cX5_count 76 = .ok (.aload_n 0, 1) := by decide +kernel
theorem dX5_count_77 : decode cX5_count 77 = .ok (.getfield 49, 3) := by decide +kernel
theorem dX5_count_80 : decode cX5_count 80 = .ok (.ireturn, 1) := by decide +kernel
theorem dX5_count_81 : decode cX5_count 81 = .ok (.aload_n 0, 1) := by decide +kernel
theorem dX5_count_82 : decode cX5_count 82 = .ok (.getfield 32, 3) := by decide +kernel
theorem dX5_count_85 : decode cX5_count 85 = .ok (.getfield 143, 3) := by decide +kernel
theorem dX5_count_88 : decode cX5_count 88 = .ok (.ifCond .eq 7, 3) := by decide +kernel
theorem dX5_count_91 : decode cX5_count 91 = .ok (.iconst 1, 1) := by decide +kernel
theorem dX5_count_92 : decode cX5_count 92 = .ok (.goto 4, 3) := by decide +kernel
theorem dX5_count_95 : decode cX5_count 95 = .ok (.iconst 0, 1) := by decide +kernel
theorem dX5_count_96 : decode cX5_count 96 = .ok (.ireturn, 1) := by decide +kernel
theorem dX5_count_97 : decode cX5_count 97 = .ok (.aload_n 0, 1) := by decide +kernel
theorem dX5_count_98 : decode cX5_count 98 = .ok (.getfield 23, 3) := by decide +kernel
theorem dX5_count_101 : decode cX5_count 101 = .ok (.getfield 146, 3) := by decide +kernel
theorem dX5_count_104 : decode cX5_count 104 = .ok (.ireturn, 1) := by decide +kernel
theorem dX5_count_105 : decode cX5_count 105 = .ok (.iconst (-1), 1) := by decide +kernel
theorem dX5_count_106 : decode cX5_count 106 = .ok (.ireturn, 1) := by decide +kernel
