theorem dX3_init_0 : decode cX3_init 0 = .ok (.aload_n 0, 1) := by decide +kernel
theorem dX3_init_1 : decode cX3_init 1 = .ok (.invokespecial 5, 3) := by decide +kernel
theorem dX3_init_4 : decode cX3_init 4 = .ok (.aload_n 0, 1) := by decide +kernel
theorem dX3_init_5 : decode cX3_init 5 = .ok (.iconst 1, 1) := by decide +kernel
theorem dX3_init_6 : decode cX3_init 6 = .ok (.bipush 43, 2) := by decide +kernel
theorem dX3_init_8 : decode cX3_init 8 = .ok (.iload_n 1, 1) := by decide +kernel
theorem dX3_init_9 : decode cX3_init 9 = .ok (.invokestatic 11, 3) := by decide +kernel
theorem dX3_init_12 : decode cX3_init 12 = .ok (.invokestatic 17, 3) := by decide +kernel
theorem dX3_init_15 : decode cX3_init 15 = .ok (.putfield 20, 3) := by decide +kernel
theorem dX3_init_18 : decode cX3_init 18 = .ok (.aload_n 0, 1) := by decide +kernel
theorem dX3_init_19 : decode cX3_init 19 = .ok (.iconst 1, 1) := by decide +kernel
theorem dX3_init_20 : decode cX3_init 20 = .ok (.sipush 132, 3) := by decide +kernel
theorem dX3_init_23 : decode cX3_init 23 = .ok (.iload_n 2, 1) := by decide +kernel
theorem dX3_init_24 : decode cX3_init 24 = .ok (.invokestatic 11, 3) := by decide +kernel
theorem dX3_init_27 : decode cX3_init 27 = .ok (.invokestatic 17, 3) := by decide +kernel
theorem dX3_init_30 : decode cX3_init 30 = .ok (.putfield 24, 3) := by decide +kernel
theorem dX3_init_33 : decode cX3_init 33 = .ok (.aload_n 0, 1) := by decide +kernel
theorem dX3_init_34 : decode cX3_init 34 = .ok (.aload_n 0, 1) := by decide +kernel
theorem dX3_init_35 : decode cX3_init 35 = .ok (.getfield 20, 3) := by decide +kernel
theorem dX3_init_38 : decode cX3_init 38 = .ok (.aload_n 0, 1) := by decide +kernel
theorem dX3_init_39 : decode cX3_init 39 = .ok (.getfield 24, 3) := by decide +kernel
theorem dX3_init_42 : decode cX3_init 42 = .ok (.imul, 1) := by decide +kernel
theorem dX3_init_43 : decode cX3_init 43 = .ok (.newarray .int, 2) := by decide +kernel
theorem dX3_init_45 : decode cX3_init 45 = .ok (.putfield 27, 3) := by decide +kernel
theorem dX3_init_48 : decode cX3_init 48 = .ok (.aload_n 0, 1) := by decide +kernel
theorem dX3_init_49 : decode cX3_init 49 = .ok (.aload_n 0, 1) := by decide +kernel
theorem dX3_init_50 : decode cX3_init 50 = .ok (.getfield 20, 3) := by decide +kernel
theorem dX3_init_53 : decode cX3_init 53 = .ok (.putfield 31, 3) := by decide +kernel
theorem dX3_init_56 : decode cX3_init 56 = .ok (.aload_n 0, 1) := by decide +kernel
theorem dX3_init_57 : decode cX3_init 57 = .ok (.aload_n 0, 1) := by decide +kernel
theorem dX3_init_58 : decode cX3_init 58 = .ok (.getfield 24, 3) := by decide +kernel
theorem dX3_init_61 : decode cX3_init 61 = .ok (.putfield 34, 3) := by decide +kernel
theorem dX3_init_64 : decode cX3_init 64 = .ok (.aload_n 0, 1) := by decide +kernel
theorem dX3_init_65 : decode cX3_init 65 = .ok (.aload_n 0, 1) := by decide +kernel
theorem dX3_init_66 : decode cX3_init 66 = .ok (.getfield 20, 3) := by decide +kernel
theorem dX3_init_69 : decode cX3_init 69 = .ok (.aload_n 0, 1) := by decide +kernel
theorem dX3_init_70 : decode cX3_init 70 = .ok (.getfield 24, 3) := by decide +kernel
theorem dX3_init_73 : decode cX3_init 73 = .ok (.imul, 1) := by decide +kernel
theorem dX3_init_74 : decode cX3_init 74 = .ok (.putfield 37, 3) := by decide +kernel
theorem dX3_init_77 : decode cX3_init 77 = .ok (.aload_n 0, 1) := by decide +kernel
theorem dX3_init_78 : decode cX3_init 78 = .ok (.iconst 0, 1) := by decide +kernel
theorem dX3_init_79 : decode cX3_init 79 = .ok (.putfield 40, 3) := by decide +kernel
theorem dX3_init_82 : decode cX3_init 82 = .ok (.aload_n 0, 1) := by decide +kernel
theorem dX3_init_83 : decode cX3_init 83 = .ok (.iconst 0, 1) := by decide +kernel
theorem dX3_init_84 : decode cX3_init 84 = .ok (.putfield 43, 3) := by decide +kernel
theorem dX3_init_87 : decode cX3_init 87 = .ok (.return_, 1) := by decide +kernel
set_option maxRecDepth 20000 in
theorem ggX3_eraseToAll_X3_eraseTo : GoodIn wsX3_eraseToAll wsX3_eraseTo := goodIn_r _ [7, 8, 9, 10, 11, 12, 13, 14, 15, 16, 17, 18, 19, 20, 21, 22, 23, 24, 25] (by decide +kernel) (by decide +kernel)
set_option maxRecDepth 20000 in
theorem gX3_eraseToAll_X3_eraseTo : GoodIn wsX3_eraseToAll (wsV RX3 46 RX3 yX3_eraseTo wsX3_eraseTo) := goodIn_app (goodIn_of _ (by decide +kernel)) ggX3_eraseToAll_X3_eraseTo
theorem dX3_eraseToAll_0 : decode cX3_eraseToAll 0 = .ok (.aload_n 0, 1) := by decide +kernel
theorem dX3_eraseToAll_1 : decode cX3_eraseToAll 1 = .ok (.aload_n 0, 1) := by decide +kernel
theorem dX3_eraseToAll_2 : decode cX3_eraseToAll 2 = .ok (.getfield 20, 3) := by decide +kernel
theorem dX3_eraseToAll_5 : decode cX3_eraseToAll 5 = .ok (.aload_n 0, 1) := by decide +kernel
theorem dX3_eraseToAll_6 : decode cX3_eraseToAll 6 = .ok (.getfield 24, 3) := by decide +kernel
theorem dX3_eraseToAll_9 : decode cX3_eraseToAll 9 = .ok (.invokevirtual 46, 3) := by decide +kernel
theorem dX3_eraseToAll_12 : decode cX3_eraseToAll 12 = .ok (.return_, 1) := by decide +kernel
set_option maxRecDepth 20000 in
theorem ggX3_eraseToSmall_X3_eraseTo : GoodIn wsX3_eraseToSmall wsX3_eraseTo := goodIn_r _ [11, 12, 13, 14, 15, 16, 17, 18, 19, 20, 21, 22, 23, 24, 25, 26, 27, 28, 29] (by decide +kernel) (by decide +kernel)
set_option maxRecDepth 20000 in
theorem gX3_eraseToSmall_X3_eraseTo : GoodIn wsX3_eraseToSmall (wsV RX3 46 RX3 yX3_eraseTo wsX3_eraseTo) := goodIn_app (goodIn_of _ (by decide +kernel)) ggX3_eraseToSmall_X3_eraseTo
theorem dX3_eraseToSmall_0 : decode cX3_eraseToSmall 0 = .ok (.aload_n 0, 1) := by decide +kernel
theorem dX3_eraseToSmall_1 : decode cX3_eraseToSmall 1 = .ok (.bipush 24, 2) := by decide +kernel
theorem dX3_eraseToSmall_3 : decode cX3_eraseToSmall 3 = .ok (.aload_n 0, 1) := by decide +kernel
theorem dX3_eraseToSmall_4 : decode cX3_eraseToSmall 4 = .ok (.getfield 20, 3) := by decide +kernel
theorem dX3_eraseToSmall_7 : decode cX3_eraseToSmall 7 = .ok (.invokestatic 11, 3) := by decide +kernel
theorem dX3_eraseToSmall_10 : decode cX3_eraseToSmall 10 = .ok (.bipush 80, 2) := by decide +kernel
theorem dX3_eraseToSmall_12 : decode cX3_eraseToSmall 12 = .ok (.aload_n 0, 1) := by decide +kernel
theorem dX3_eraseToSmall_13 : decode cX3_eraseToSmall 13 = .ok (.getfield 24, 3) := by decide +kernel
theorem dX3_eraseToSmall_16 : decode cX3_eraseToSmall 16 = .ok (.invokestatic 11, 3) := by decide +kernel
theorem dX3_eraseToSmall_19 : decode cX3_eraseToSmall 19 = .ok (.invokevirtual 46, 3) := by decide +kernel
theorem dX3_eraseToSmall_22 : decode cX3_eraseToSmall 22 = .ok (.return_, 1) := by decide +kernel
set_option maxRecDepth 20000 in
theorem ggX3_eraseTo_J7_fill_53178 : GoodIn wsX3_eraseTo wsJ7_fill_53178 := goodIn_r _ [10] (by decide +kernel) (by decide +kernel)
set_option maxRecDepth 20000 in
theorem gX3_eraseTo_J7_fill_53178 : GoodIn wsX3_eraseTo (va_wsS RX3 50 yJ7_fill_53178 wsJ7_fill_53178) := goodIn_app (goodIn_of _ (by decide +kernel)) ggX3_eraseTo_J7_fill_53178
theorem dX3_eraseTo_0 : decode cX3_eraseTo 0 = .ok (.aload_n 0, 1) := by decide +kernel
theorem dX3_eraseTo_1 : decode cX3_eraseTo 1 = .ok (.iload_n 1, 1) := by decide +kernel
theorem dX3_eraseTo_2 : decode cX3_eraseTo 2 = .ok (.putfield 31, 3) := by decide +kernel
theorem dX3_eraseTo_5 : decode cX3_eraseTo 5 = .ok (.aload_n 0, 1) := by decide +kernel
theorem dX3_eraseTo_6 : decode cX3_eraseTo 6 = .ok (.iload_n 2, 1) := by decide +kernel
theorem dX3_eraseTo_7 : decode cX3_eraseTo 7 = .ok (.putfield 34, 3) := by decide +kernel
theorem dX3_eraseTo_10 : decode cX3_eraseTo 10 = .ok (.aload_n 0, 1) := by decide +kernel
theorem dX3_eraseTo_11 : decode cX3_eraseTo 11 = .ok (.iload_n 1, 1) := by decide +kernel
theorem dX3_eraseTo_12 : decode cX3_eraseTo 12 = .ok (.iload_n 2, 1) := by decide +kernel
theorem dX3_eraseTo_13 : decode cX3_eraseTo 13 = .ok (.imul, 1) := by decide +kernel
theorem dX3_eraseTo_14 : decode cX3_eraseTo 14 = .ok (.putfield 37, 3) := by decide +kernel
theorem dX3_eraseTo_17 : decode cX3_eraseTo 17 = .ok (.aload_n 0, 1) := by decide +kernel
theorem dX3_eraseTo_18 : decode cX3_eraseTo 18 = .ok (.getfield 27, 3) := by decide +kernel
theorem dX3_eraseTo_21 : decode cX3_eraseTo 21 = .ok (.iconst 0, 1) := by decide +kernel
theorem dX3_eraseTo_22 : decode cX3_eraseTo 22 = .ok (.invokestatic 50, 3) := by decide +kernel
theorem dX3_eraseTo_25 : decode cX3_eraseTo 25 = .ok (.aload_n 0, 1) := by decide +kernel
theorem dX3_eraseTo_26 : decode cX3_eraseTo 26 = .ok (.iconst 0, 1) := by decide +kernel
theorem dX3_eraseTo_27 : decode cX3_eraseTo 27 = .ok (.putfield 40, 3) := by decide +kernel
theorem dX3_eraseTo_30 : decode cX3_eraseTo 30 = .ok (.aload_n 0, 1) := by decide +kernel
theorem dX3_eraseTo_31 : decode cX3_eraseTo 31 = .ok (.iconst 0, 1) := by decide +kernel
theorem dX3_eraseTo_32 : decode cX3_eraseTo 32 = .ok (.putfield 43, 3) := by decide +kernel
theorem dX3_eraseTo_35 : decode cX3_eraseTo 35 = .ok (.return_, 1) := by decide +kernel
theorem dX3_contains_0 : decode cX3_contains 0 = .ok (.iload_n 1, 1) := by decide +kernel
theorem dX3_contains_1 : decode cX3_contains 1 = .ok (.ifCond .lt 27, 3) := by decide +kernel
theorem dX3_contains_4 : decode cX3_contains 4 = .ok (.iload_n 1, 1) := by decide +kernel
theorem dX3_contains_5 : decode cX3_contains 5 = .ok (.aload_n 0, 1) := by decide +kernel
theorem dX3_contains_6 : decode cX3_contains 6 = .ok (.getfield 31, 3) := by decide +kernel
theorem dX3_contains_9 : decode cX3_contains 9 = .ok (.if_icmp .ge 19, 3) := by decide +kernel
theorem dX3_contains_12 : decode cX3_contains 12 = .ok (.iload_n 2, 1) := by decide +kernel
theorem dX3_contains_13 : decode cX3_contains 13 = .ok (.ifCond .lt 15, 3) := by decide +kernel
theorem dX3_contains_16 : decode cX3_contains 16 = .ok (.iload_n 2, 1) := by decide +kernel
theorem dX3_contains_17 : decode cX3_contains 17 = .ok (.aload_n 0, 1) := by decide +kernel
theorem dX3_contains_18 : decode cX3_contains 18 = .ok (.getfield 34, 3) := by decide +kernel
theorem dX3_contains_21 : decode cX3_contains 21 = .ok (.if_icmp .ge 7, 3) := by decide +kernel
theorem dX3_contains_24 : decode cX3_contains 24 = .ok (.iconst 1, 1) := by decide +kernel
theorem dX3_contains_25 : decode cX3_contains 25 = .ok (.goto 4, 3) := by decide +kernel
theorem dX3_contains_28 : decode cX3_contains 28 = .ok (.iconst 0, 1) := by decide +kernel
theorem dX3_contains_29 : decode cX3_contains 29 = .ok (.ireturn, 1) := by decide +kernel
theorem dX3_addressOf_0 : decode cX3_addressOf 0 = .ok (.iload_n 1, 1) := by decide +kernel
theorem dX3_addressOf_1 : decode cX3_addressOf 1 = .ok (.aload_n 0, 1) := by decide +kernel
theorem dX3_addressOf_2 : decode cX3_addressOf 2 = .ok (.getfield 34, 3) := by decide +kernel
theorem dX3_addressOf_5 : decode cX3_addressOf 5 = .ok (.imul, 1) := by decide +kernel
theorem dX3_addressOf_6 : decode cX3_addressOf 6 = .ok (.iload_n 2, 1) := by decide +kernel
theorem dX3_addressOf_7 : decode cX3_addressOf 7 = .ok (.iadd, 1) := by decide +kernel
theorem dX3_addressOf_8 : decode cX3_addressOf 8 = .ok (.ireturn, 1) := by decide +kernel
theorem dX3_get_0 : decode cX3_get 0 = .ok (.iload_n 1, 1) := by decide +kernel
theorem dX3_get_1 : decode cX3_get 1 = .ok (.ifCond .lt 12, 3) := by decide +kernel
theorem dX3_get_4 : decode cX3_get 4 = .ok (.iload_n 1, 1) := by decide +kernel
theorem dX3_get_5 : decode cX3_get 5 = .ok (.aload_n 0, 1) := by decide +kernel
theorem dX3_get_6 : decode cX3_get 6 = .ok (.getfield 27, 3) := by decide +kernel
theorem dX3_get_9 : decode cX3_get 9 = .ok (.arraylength, 1) := by decide +kernel
theorem dX3_get_10 : decode cX3_get 10 = .ok (.if_icmp .lt 7, 3) := by decide +kernel
theorem dX3_get_13 : decode cX3_get 13 = .ok (.iconst 0, 1) := by decide +kernel
theorem dX3_get_14 : decode cX3_get 14 = .ok (.goto 9, 3) := by decide +kernel
theorem dX3_get_17 : decode cX3_get 17 = .ok (.aload_n 0, 1) := by decide +kernel
theorem dX3_get_18 : decode cX3_get 18 = .ok (.getfield 27, 3) := by decide +kernel
theorem dX3_get_21 : decode cX3_get 21 = .ok (.iload_n 1, 1) := by decide +kernel
theorem dX3_get_22 : decode cX3_get 22 = .ok (.iaload, 1) := by decide +kernel
theorem dX3_get_23 : decode cX3_get 23 = .ok (.ireturn, 1) := by decide +kernel
theorem dX3_put_0 : decode cX3_put 0 = .ok (.iload_n 1, 1) := by decide +kernel
theorem dX3_put_1 : decode cX3_put 1 = .ok (.ifCond .lt 12, 3) := by decide +kernel
theorem dX3_put_4 : decode cX3_put 4 = .ok (.iload_n 1, 1) := by decide +kernel
theorem dX3_put_5 : decode cX3_put 5 = .ok (.aload_n 0, 1) := by decide +kernel
theorem dX3_put_6 : decode cX3_put 6 = .ok (.getfield 27, 3) := by decide +kernel
theorem dX3_put_9 : decode cX3_put 9 = .ok (.arraylength, 1) := by decide +kernel
theorem dX3_put_10 : decode cX3_put 10 = .ok (.if_icmp .lt 4, 3) := by decide +kernel
theorem dX3_put_13 : decode cX3_put 13 = .ok (.return_, 1) := by decide +kernel
theorem dX3_put_14 : decode cX3_put 14 = .ok (.aload_n 0, 1) := by decide +kernel
theorem dX3_put_15 : decode cX3_put 15 = .ok (.getfield 27, 3) := by decide +kernel
theorem dX3_put_18 : decode cX3_put 18 = .ok (.iload_n 1, 1) := by decide +kernel
theorem dX3_put_19 : decode cX3_put 19 = .ok (.iaload, 1) := by decide +kernel
theorem dX3_put_20 : decode cX3_put 20 = .ok (.sipush 256, 3) := by decide +kernel
theorem dX3_put_23 : decode cX3_put 23 = .ok (.if_icmp .lt 13, 3) := by decide +kernel
theorem dX3_put_26 : decode cX3_put 26 = .ok (.aload_n 0, 1) := by decide +kernel
theorem dX3_put_27 : decode cX3_put 27 = .ok (.dup, 1) := by decide +kernel
theorem dX3_put_28 : decode cX3_put 28 = .ok (.getfield 40, 3) := by decide +kernel
theorem dX3_put_31 : decode cX3_put 31 = .ok (.iconst 1, 1) := by decide +kernel
theorem dX3_put_32 : decode cX3_put 32 = .ok (.isub, 1) := by decide +kernel
theorem dX3_put_33 : decode cX3_put 33 = .ok (.putfield 40, 3) := by decide +kernel
theorem dX3_put_36 : decode cX3_put 36 = .ok (.iload_n 2, 1) := by decide +kernel
theorem dX3_put_37 : decode cX3_put 37 = .ok (.sipush 256, 3) := by decide +kernel
theorem dX3_put_40 : decode cX3_put 40 = .ok (.if_icmp .lt 13, 3) := by decide +kernel
theorem dX3_put_43 : decode cX3_put 43 = .ok (.aload_n 0, 1) := by decide +kernel
theorem dX3_put_44 : decode cX3_put 44 = .ok (.dup, 1) := by decide +kernel
theorem dX3_put_45 : decode cX3_put 45 = .ok (.getfield 40, 3) := by decide +kernel
theorem dX3_put_48 : decode cX3_put 48 = .ok (.iconst 1, 1) := by decide +kernel
theorem dX3_put_49 : decode cX3_put 49 = .ok (.iadd, 1) := by decide +kernel
theorem dX3_put_50 : decode cX3_put 50 = .ok (.putfield 40, 3) := by decide +kernel
theorem dX3_put_53 : decode cX3_put 53 = .ok (.aload_n 0, 1) := by decide +kernel
theorem dX3_put_54 : decode cX3_put 54 = .ok (.getfield 27, 3) := by decide +kernel
theorem dX3_put_57 : decode cX3_put 57 = .ok (.iload_n 1, 1) := by decide +kernel
theorem dX3_put_58 : decode cX3_put 58 = .ok (.iload_n 2, 1) := by decide +kernel
theorem dX3_put_59 : decode cX3_put 59 = .ok (.iastore, 1) := by decide +kernel
theorem dX3_put_60 : decode cX3_put 60 = .ok (.return_, 1) := by decide +kernel
theorem dX3_after_0 : decode cX3_after 0 = .ok (.iload_n 1, 1) := by decide +kernel
theorem dX3_after_1 : decode cX3_after 1 = .ok (.iconst 1, 1) := by decide +kernel
theorem dX3_after_2 : decode cX3_after 2 = .ok (.iadd, 1) := by decide +kernel
theorem dX3_after_3 : decode cX3_after 3 = .ok (.aload_n 0, 1) := by decide +kernel
theorem dX3_after_4 : decode cX3_after 4 = .ok (.getfield 37, 3) := by decide +kernel
theorem dX3_after_7 : decode cX3_after 7 = .ok (.if_icmp .lt 7, 3) := by decide +kernel
theorem dX3_after_10 : decode cX3_after 10 = .ok (.iconst 0, 1) := by decide +kernel
theorem dX3_after_11 : decode cX3_after 11 = .ok (.goto 6, 3) := by decide +kernel
theorem dX3_after_14 : decode cX3_after 14 = .ok (.iload_n 1, 1) := by decide +kernel
theorem dX3_after_15 : decode cX3_after 15 = .ok (.iconst 1, 1) := by decide +kernel
theorem dX3_after_16 : decode cX3_after 16 = .ok (.iadd, 1) := by decide +kernel
theorem dX3_after_17 : decode cX3_after 17 = .ok (.ireturn, 1) := by decide +kernel
theorem dX3_before_0 : decode cX3_before 0 = .ok (.iload_n 1, 1) := by decide +kernel
theorem dX3_before_1 : decode cX3_before 1 = .ok (.ifCond .gt 12, 3) := by decide +kernel
theorem dX3_before_4 : decode cX3_before 4 = .ok (.aload_n 0, 1) := by decide +kernel
theorem dX3_before_5 : decode cX3_before 5 = .ok (.getfield 37, 3) := by decide +kernel
theorem dX3_before_8 : decode cX3_before 8 = .ok (.iconst 1, 1) := by decide +kernel
theorem dX3_before_9 : decode cX3_before 9 = .ok (.isub, 1) := by decide +kernel
theorem dX3_before_10 : decode cX3_before 10 = .ok (.goto 6, 3) := by decide +kernel
theorem dX3_before_13 : decode cX3_before 13 = .ok (.iload_n 1, 1) := by decide +kernel
theorem dX3_before_14 : decode cX3_before 14 = .ok (.iconst 1, 1) := by decide +kernel
theorem dX3_before_15 : decode cX3_before 15 = .ok (.isub, 1) := by decide +kernel
theorem dX3_before_16 : decode cX3_before 16 = .ok (.ireturn, 1) := by decide +kernel
theorem dX3_stepsTo_0 : decode cX3_stepsTo 0 = .ok (.iload_n 2, 1) := by decide +kernel
theorem dX3_stepsTo_1 : decode cX3_stepsTo 1 = .ok (.iload_n 1, 1) := by decide +kernel
theorem dX3_stepsTo_2 : decode cX3_stepsTo 2 = .ok (.if_icmp .le 9, 3) := by decide +kernel
theorem dX3_stepsTo_5 : decode cX3_stepsTo 5 = .ok (.iload_n 2, 1) := by decide +kernel
theorem dX3_stepsTo_6 : decode cX3_stepsTo 6 = .ok (.iload_n 1, 1) := by decide +kernel
theorem dX3_stepsTo_7 : decode cX3_stepsTo 7 = .ok (.isub, 1) := by decide +kernel
theorem dX3_stepsTo_8 : decode cX3_stepsTo 8 = .ok (.goto 11, 3) := by decide +kernel
theorem dX3_stepsTo_11 : decode cX3_stepsTo 11 = .ok (.iload_n 2, 1) := by decide +kernel
theorem dX3_stepsTo_12 : decode cX3_stepsTo 12 = .ok (.iload_n 1, 1) := by decide +kernel
theorem dX3_stepsTo_13 : decode cX3_stepsTo 13 = .ok (.isub, 1) := by decide +kernel
theorem dX3_stepsTo_14 : decode cX3_stepsTo 14 = .ok (.aload_n 0, 1) := by decide +kernel
theorem dX3_stepsTo_15 : decode cX3_stepsTo 15 = .ok (.getfield 37, 3) := by decide +kernel
theorem dX3_stepsTo_18 : decode cX3_stepsTo 18 = .ok (.iadd, 1) := by decide +kernel
theorem dX3_stepsTo_19 : decode cX3_stepsTo 19 = .ok (.ireturn, 1) := by decide +kernel
theorem dX3_startOfRow_0 : decode cX3_startOfRow 0 = .ok (.aload_n 0, 1) := by decide +kernel
theorem dX3_startOfRow_1 : decode cX3_startOfRow 1 = .ok (.getfield 34, 3) := by decide +kernel
theorem dX3_startOfRow_4 : decode cX3_startOfRow 4 = .ok (.iconst 1, 1) := by decide +kernel
theorem dX3_startOfRow_5 : decode cX3_startOfRow 5 = .ok (.if_icmp .ge 7, 3) := by decide +kernel
theorem dX3_startOfRow_8 : decode cX3_startOfRow 8 = .ok (.iconst 0, 1) := by decide +kernel
theorem dX3_startOfRow_9 : decode cX3_startOfRow 9 = .ok (.goto 11, 3) := by decide +kernel
theorem dX3_startOfRow_12 : decode cX3_startOfRow 12 = .ok (.iload_n 1, 1) := by decide +kernel
theorem dX3_startOfRow_13 : decode cX3_startOfRow 13 = .ok (.iload_n 1, 1) := by decide +kernel
theorem dX3_startOfRow_14 : decode cX3_startOfRow 14 = .ok (.aload_n 0, 1) := by decide +kernel
theorem dX3_startOfRow_15 : decode cX3_startOfRow 15 = .ok (.getfield 34, 3) := by decide +kernel
theorem dX3_startOfRow_18 : decode cX3_startOfRow 18 = .ok (.irem, 1) := by decide +kernel
theorem dX3_startOfRow_19 : decode cX3_startOfRow 19 = .ok (.isub, 1) := by decide +kernel
theorem dX3_startOfRow_20 : decode cX3_startOfRow 20 = .ok (.ireturn, 1) := by decide +kernel
set_option maxRecDepth 20000 in
theorem ggX3_attributeOver_X3_startOver : GoodIn wsX3_attributeOver wsX3_startOver := goodIn_r _ [5, 6, 7, 8, 9, 10, 4, 11, 12, 13, 14, 15, 16, 17, 18, 19, 20, 21, 22, 23, 24] (by decide +kernel) (by decide +kernel)
set_option maxRecDepth 20000 in
theorem gX3_attributeOver_X3_startOver : GoodIn wsX3_attributeOver (wsV RX3 56 RX3 yX3_startOver wsX3_startOver) := goodIn_app (goodIn_of _ (by decide +kernel)) ggX3_attributeOver_X3_startOver
set_option maxRecDepth 20000 in
theorem ggX3_attributeOver_X3_get : GoodIn wsX3_attributeOver wsX3_get := goodIn_r _ [11, 12, 17, 18, 19, 20, 21, 22, 23, 24] (by decide +kernel) (by decide +kernel)
set_option maxRecDepth 20000 in
theorem gX3_attributeOver_X3_get : GoodIn wsX3_attributeOver (wsV RX3 60 RX3 yX3_get wsX3_get) := goodIn_app (goodIn_of _ (by decide +kernel)) ggX3_attributeOver_X3_get
theorem dX3_attributeOver_0 : decode cX3_attributeOver 0 = .ok (.aload_n 0, 1) := by decide +kernel
theorem dX3_attributeOver_1 : decode cX3_attributeOver 1 = .ok (.iload_n 1, 1) := by decide +kernel
theorem dX3_attributeOver_2 : decode cX3_attributeOver 2 = .ok (.invokevirtual 56, 3) := by decide +kernel
theorem dX3_attributeOver_5 : decode cX3_attributeOver 5 = .ok (.istore_n 2, 1) := by decide +kernel
theorem dX3_attributeOver_6 : decode cX3_attributeOver 6 = .ok (.iload_n 2, 1) := by decide +kernel
theorem dX3_attributeOver_7 : decode cX3_attributeOver 7 = .ok (.iconst (-1), 1) := by decide +kernel
theorem dX3_attributeOver_8 : decode cX3_attributeOver 8 = .ok (.if_icmp .ne 7, 3) := by decide +kernel
theorem dX3_attributeOver_11 : decode cX3_attributeOver 11 = .ok (.iconst (-1), 1) := by decide +kernel
theorem dX3_attributeOver_12 : decode cX3_attributeOver 12 = .ok (.goto 12, 3) := by decide +kernel
theorem dX3_attributeOver_15 : decode cX3_attributeOver 15 = .ok (.aload_n 0, 1) := by decide +kernel
theorem dX3_attributeOver_16 : decode cX3_attributeOver 16 = .ok (.iload_n 2, 1) := by decide +kernel
theorem dX3_attributeOver_17 : decode cX3_attributeOver 17 = .ok (.invokevirtual 60, 3) := by decide +kernel
theorem dX3_attributeOver_20 : decode cX3_attributeOver 20 = .ok (.sipush 256, 3) := by decide +kernel
theorem dX3_attributeOver_23 : decode cX3_attributeOver 23 = .ok (.isub, 1) := by decide +kernel
theorem dX3_attributeOver_24 : decode cX3_attributeOver 24 = .ok (.ireturn, 1) := by decide +kernel
set_option maxRecDepth 20000 in
theorem ggX3_startOver_X3_get : GoodIn wsX3_startOver wsX3_get := goodIn_r _ [7, 8, 13, 14, 15, 16, 17, 18, 19, 20] (by decide +kernel) (by decide +kernel)
set_option maxRecDepth 20000 in
theorem gX3_startOver_X3_get : GoodIn wsX3_startOver (wsV RX3 60 RX3 yX3_get wsX3_get) := goodIn_app (goodIn_of _ (by decide +kernel)) ggX3_startOver_X3_get
set_option maxRecDepth 20000 in
theorem ggX3_startOver_X3_before : GoodIn wsX3_startOver wsX3_before := goodIn_r _ [12, 2, 13, 14, 15, 16, 17, 18, 19, 20] (by decide +kernel) (by decide +kernel)
set_option maxRecDepth 20000 in
theorem gX3_startOver_X3_before : GoodIn wsX3_startOver (wsV RX3 63 RX3 yX3_before wsX3_before) := goodIn_app (goodIn_of _ (by decide +kernel)) ggX3_startOver_X3_before
theorem dX3_startOver_0 : decode cX3_startOver 0 = .ok (.aload_n 0, 1) := by decide +kernel
theorem dX3_startOver_1 : decode cX3_startOver 1 = .ok (.getfield 40, 3) := by decide +kernel
theorem dX3_startOver_4 : decode cX3_startOver 4 = .ok (.ifCond .ne 5, 3) := by decide +kernel
theorem dX3_startOver_7 : decode cX3_startOver 7 = .ok (.iconst (-1), 1) := by decide +kernel
theorem dX3_startOver_8 : decode cX3_startOver 8 = .ok (.ireturn, 1) := by decide +kernel
theorem dX3_startOver_9 : decode cX3_startOver 9 = .ok (.iload_n 1, 1) := by decide +kernel
theorem dX3_startOver_10 : decode cX3_startOver 10 = .ok (.istore_n 2, 1) := by decide +kernel
theorem dX3_startOver_11 : decode cX3_startOver 11 = .ok (.iconst 0, 1) := by decide +kernel
theorem dX3_startOver_12 : decode cX3_startOver 12 = .ok (.istore_n 3, 1) := by decide +kernel
theorem dX3_startOver_13 : decode cX3_startOver 13 = .ok (.iload_n 3, 1) := by decide +kernel
theorem dX3_startOver_14 : decode cX3_startOver 14 = .ok (.aload_n 0, 1) := by decide +kernel
theorem dX3_startOver_15 : decode cX3_startOver 15 = .ok (.getfield 37, 3) := by decide +kernel
theorem dX3_startOver_18 : decode cX3_startOver 18 = .ok (.if_icmp .ge 28, 3) := by decide +kernel
theorem dX3_startOver_21 : decode cX3_startOver 21 = .ok (.aload_n 0, 1) := by decide +kernel
theorem dX3_startOver_22 : decode cX3_startOver 22 = .ok (.iload_n 2, 1) := by decide +kernel
theorem dX3_startOver_23 : decode cX3_startOver 23 = .ok (.invokevirtual 60, 3) := by decide +kernel
theorem dX3_startOver_26 : decode cX3_startOver 26 = .ok (.sipush 256, 3) := by decide +kernel
theorem dX3_startOver_29 : decode cX3_startOver 29 = .ok (.if_icmp .lt 5, 3) := by decide +kernel
theorem dX3_startOver_32 : decode cX3_startOver 32 = .ok (.iload_n 2, 1) := by decide +kernel
theorem dX3_startOver_33 : decode cX3_startOver 33 = .ok (.ireturn, 1) := by decide +kernel
theorem dX3_startOver_34 : decode cX3_startOver 34 = .ok (.aload_n 0, 1) := by decide +kernel
theorem dX3_startOver_35 : decode cX3_startOver 35 = .ok (.iload_n 2, 1) := by decide +kernel
theorem dX3_startOver_36 : decode cX3_startOver 36 = .ok (.invokevirtual 63, 3) := by decide +kernel
theorem dX3_startOver_39 : decode cX3_startOver 39 = .ok (.istore_n 2, 1) := by decide +kernel
theorem dX3_startOver_40 : decode cX3_startOver 40 = .ok (.iinc 3 1, 3) := by decide +kernel
theorem dX3_startOver_43 : decode cX3_startOver 43 = .ok (.goto (-30), 3) := by decide +kernel
theorem dX3_startOver_46 : decode cX3_startOver 46 = .ok (.iconst (-1), 1) := by decide +kernel
theorem dX3_startOver_47 : decode cX3_startOver 47 = .ok (.ireturn, 1) := by decide +kernel
set_option maxRecDepth 20000 in
theorem ggX3_startOfField_X3_get : GoodIn wsX3_startOfField wsX3_get := goodIn_r _ [7, 8, 9, 10, 11, 12, 13, 14, 15, 16] (by decide +kernel) (by decide +kernel)
set_option maxRecDepth 20000 in
theorem gX3_startOfField_X3_get : GoodIn wsX3_startOfField (wsV RX3 60 RX3 yX3_get wsX3_get) := goodIn_app (goodIn_of _ (by decide +kernel)) ggX3_startOfField_X3_get
theorem dX3_startOfField_0 : decode cX3_startOfField 0 = .ok (.iload_n 1, 1) := by decide +kernel
theorem dX3_startOfField_1 : decode cX3_startOfField 1 = .ok (.ifCond .lt 11, 3) := by decide +kernel
theorem dX3_startOfField_4 : decode cX3_startOfField 4 = .ok (.iload_n 1, 1) := by decide +kernel
theorem dX3_startOfField_5 : decode cX3_startOfField 5 = .ok (.aload_n 0, 1) := by decide +kernel
theorem dX3_startOfField_6 : decode cX3_startOfField 6 = .ok (.getfield 40, 3) := by decide +kernel
theorem dX3_startOfField_9 : decode cX3_startOfField 9 = .ok (.if_icmp .lt 5, 3) := by decide +kernel
theorem dX3_startOfField_12 : decode cX3_startOfField 12 = .ok (.iconst (-1), 1) := by decide +kernel
theorem dX3_startOfField_13 : decode cX3_startOfField 13 = .ok (.ireturn, 1) := by decide +kernel
theorem dX3_startOfField_14 : decode cX3_startOfField 14 = .ok (.iconst 0, 1) := by decide +kernel
theorem dX3_startOfField_15 : decode cX3_startOfField 15 = .ok (.istore_n 2, 1) := by decide +kernel
theorem dX3_startOfField_16 : decode cX3_startOfField 16 = .ok (.iconst 0, 1) := by decide +kernel
theorem dX3_startOfField_17 : decode cX3_startOfField 17 = .ok (.istore_n 3, 1) := by decide +kernel
theorem dX3_startOfField_18 : decode cX3_startOfField 18 = .ok (.iload_n 3, 1) := by decide +kernel
theorem dX3_startOfField_19 : decode cX3_startOfField 19 = .ok (.aload_n 0, 1) := by decide +kernel
theorem dX3_startOfField_20 : decode cX3_startOfField 20 = .ok (.getfield 37, 3) := by decide +kernel
theorem dX3_startOfField_23 : decode cX3_startOfField 23 = .ok (.if_icmp .ge 30, 3) := by decide +kernel
theorem dX3_startOfField_26 : decode cX3_startOfField 26 = .ok (.aload_n 0, 1) := by decide +kernel
theorem dX3_startOfField_27 : decode cX3_startOfField 27 = .ok (.iload_n 3, 1) := by decide +kernel
theorem dX3_startOfField_28 : decode cX3_startOfField 28 = .ok (.invokevirtual 60, 3) := by decide +kernel
theorem dX3_startOfField_31 : decode cX3_startOfField 31 = .ok (.sipush 256, 3) := by decide +kernel
theorem dX3_startOfField_34 : decode cX3_startOfField 34 = .ok (.if_icmp .lt 13, 3) := by decide +kernel
theorem dX3_startOfField_37 : decode cX3_startOfField 37 = .ok (.iload_n 2, 1) := by decide +kernel
theorem dX3_startOfField_38 : decode cX3_startOfField 38 = .ok (.iload_n 1, 1) := by decide +kernel
theorem dX3_startOfField_39 : decode cX3_startOfField 39 = .ok (.if_icmp .ne 5, 3) := by decide +kernel
theorem dX3_startOfField_42 : decode cX3_startOfField 42 = .ok (.iload_n 3, 1) := by decide +kernel
theorem dX3_startOfField_43 : decode cX3_startOfField 43 = .ok (.ireturn, 1) := by decide +kernel
theorem dX3_startOfField_44 : decode cX3_startOfField 44 = .ok (.iinc 2 1, 3) := by decide +kernel
theorem dX3_startOfField_47 : decode cX3_startOfField 47 = .ok (.iinc 3 1, 3) := by decide +kernel
theorem dX3_startOfField_50 : decode cX3_startOfField 50 = .ok (.goto (-32), 3) := by decide +kernel
theorem dX3_startOfField_53 : decode cX3_startOfField 53 = .ok (.iconst (-1), 1) := by decide +kernel
theorem dX3_startOfField_54 : decode cX3_startOfField 54 = .ok (.ireturn, 1) := by decide +kernel
set_option maxRecDepth 20000 in
theorem ggX3_cellsToFieldEnd_X3_get : GoodIn wsX3_cellsToFieldEnd wsX3_get := goodIn_r _ [7, 8, 13, 14, 15, 16, 17, 18, 19, 20] (by decide +kernel) (by decide +kernel)
set_option maxRecDepth 20000 in
theorem gX3_cellsToFieldEnd_X3_get : GoodIn wsX3_cellsToFieldEnd (wsV RX3 60 RX3 yX3_get wsX3_get) := goodIn_app (goodIn_of _ (by decide +kernel)) ggX3_cellsToFieldEnd_X3_get
set_option maxRecDepth 20000 in
theorem ggX3_cellsToFieldEnd_X3_after : GoodIn wsX3_cellsToFieldEnd wsX3_after := goodIn_r _ [12, 2, 13, 14, 15, 16, 17, 18, 19, 20] (by decide +kernel) (by decide +kernel)
set_option maxRecDepth 20000 in
theorem gX3_cellsToFieldEnd_X3_after : GoodIn wsX3_cellsToFieldEnd (wsV RX3 66 RX3 yX3_after wsX3_after) := goodIn_app (goodIn_of _ (by decide +kernel)) ggX3_cellsToFieldEnd_X3_after
theorem dX3_cellsToFieldEnd_0 : decode cX3_cellsToFieldEnd 0 = .ok (.aload_n 0, 1) := by decide +kernel
theorem dX3_cellsToFieldEnd_1 : decode cX3_cellsToFieldEnd 1 = .ok (.getfield 40, 3) := by decide +kernel
theorem dX3_cellsToFieldEnd_4 : decode cX3_cellsToFieldEnd 4 = .ok (.ifCond .ne 10, 3) := by decide +kernel
theorem dX3_cellsToFieldEnd_7 : decode cX3_cellsToFieldEnd 7 = .ok (.aload_n 0, 1) := by decide +kernel
theorem dX3_cellsToFieldEnd_8 : decode cX3_cellsToFieldEnd 8 = .ok (.getfield 37, 3) := by decide +kernel
theorem dX3_cellsToFieldEnd_11 : decode cX3_cellsToFieldEnd 11 = .ok (.iload_n 1, 1) := by decide +kernel
theorem dX3_cellsToFieldEnd_12 : decode cX3_cellsToFieldEnd 12 = .ok (.isub, 1) := by decide +kernel
theorem dX3_cellsToFieldEnd_13 : decode cX3_cellsToFieldEnd 13 = .ok (.ireturn, 1) := by decide +kernel
theorem dX3_cellsToFieldEnd_14 : decode cX3_cellsToFieldEnd 14 = .ok (.iload_n 1, 1) := by decide +kernel
theorem dX3_cellsToFieldEnd_15 : decode cX3_cellsToFieldEnd 15 = .ok (.istore_n 2, 1) := by decide +kernel
theorem dX3_cellsToFieldEnd_16 : decode cX3_cellsToFieldEnd 16 = .ok (.iconst 0, 1) := by decide +kernel
theorem dX3_cellsToFieldEnd_17 : decode cX3_cellsToFieldEnd 17 = .ok (.istore_n 3, 1) := by decide +kernel
theorem dX3_cellsToFieldEnd_18 : decode cX3_cellsToFieldEnd 18 = .ok (.iload_n 3, 1) := by decide +kernel
theorem dX3_cellsToFieldEnd_19 : decode cX3_cellsToFieldEnd 19 = .ok (.aload_n 0, 1) := by decide +kernel
theorem dX3_cellsToFieldEnd_20 : decode cX3_cellsToFieldEnd 20 = .ok (.getfield 37, 3) := by decide +kernel
theorem dX3_cellsToFieldEnd_23 : decode cX3_cellsToFieldEnd 23 = .ok (.if_icmp .ge 28, 3) := by decide +kernel
theorem dX3_cellsToFieldEnd_26 : decode cX3_cellsToFieldEnd 26 = .ok (.aload_n 0, 1) := by decide +kernel
theorem dX3_cellsToFieldEnd_27 : decode cX3_cellsToFieldEnd 27 = .ok (.iload_n 2, 1) := by decide +kernel
theorem dX3_cellsToFieldEnd_28 : decode cX3_cellsToFieldEnd 28 = .ok (.invokevirtual 60, 3) := by decide +kernel
theorem dX3_cellsToFieldEnd_31 : decode cX3_cellsToFieldEnd 31 = .ok (.sipush 256, 3) := by decide +kernel
theorem dX3_cellsToFieldEnd_34 : decode cX3_cellsToFieldEnd 34 = .ok (.if_icmp .lt 5, 3) := by decide +kernel
theorem dX3_cellsToFieldEnd_37 : decode cX3_cellsToFieldEnd 37 = .ok (.iload_n 3, 1) := by decide +kernel
theorem dX3_cellsToFieldEnd_38 : decode cX3_cellsToFieldEnd 38 = .ok (.ireturn, 1) := by decide +kernel
theorem dX3_cellsToFieldEnd_39 : decode cX3_cellsToFieldEnd 39 = .ok (.aload_n 0, 1) := by decide +kernel
theorem dX3_cellsToFieldEnd_40 : decode cX3_cellsToFieldEnd 40 = .ok (.iload_n 2, 1) := by decide +kernel
theorem dX3_cellsToFieldEnd_41 : decode cX3_cellsToFieldEnd 41 = .ok (.invokevirtual 66, 3) := by decide +kernel
theorem dX3_cellsToFieldEnd_44 : decode cX3_cellsToFieldEnd 44 = .ok (.istore_n 2, 1) := by decide +kernel
theorem dX3_cellsToFieldEnd_45 : decode cX3_cellsToFieldEnd 45 = .ok (.iinc 3 1, 3) := by decide +kernel
theorem dX3_cellsToFieldEnd_48 : decode cX3_cellsToFieldEnd 48 = .ok (.goto (-30), 3) := by decide +kernel
theorem dX3_cellsToFieldEnd_51 : decode cX3_cellsToFieldEnd 51 = .ok (.aload_n 0, 1) := by decide +kernel
theorem dX3_cellsToFieldEnd_52 : decode cX3_cellsToFieldEnd 52 = .ok (.getfield 37, 3) := by decide +kernel
theorem dX3_cellsToFieldEnd_55 : decode cX3_cellsToFieldEnd 55 = .ok (.ireturn, 1) := by decide +kernel
set_option maxRecDepth 20000 in
theorem ggX3_signsOfField_X3_after : GoodIn wsX3_signsOfField wsX3_after := goodIn_r _ [5, 6, 17, 18, 19, 20, 21, 22, 23, 24] (by decide +kernel) (by decide +kernel)
set_option maxRecDepth 20000 in
theorem gX3_signsOfField_X3_after : GoodIn wsX3_signsOfField (wsV RX3 66 RX3 yX3_after wsX3_after) := goodIn_app (goodIn_of _ (by decide +kernel)) ggX3_signsOfField_X3_after
set_option maxRecDepth 20000 in
theorem ggX3_signsOfField_X3_cellsToFieldEnd : GoodIn wsX3_signsOfField wsX3_cellsToFieldEnd := goodIn_r _ [10, 11, 6, 12, 13, 14, 4, 15, 16, 1, 2, 3, 5, 17, 18, 19, 20, 21, 22, 23, 24] (by decide +kernel) (by decide +kernel)
set_option maxRecDepth 20000 in
theorem gX3_signsOfField_X3_cellsToFieldEnd : GoodIn wsX3_signsOfField (wsV RX3 69 RX3 yX3_cellsToFieldEnd wsX3_cellsToFieldEnd) := goodIn_app (goodIn_of _ (by decide +kernel)) ggX3_signsOfField_X3_cellsToFieldEnd
set_option maxRecDepth 20000 in
theorem ggX3_signsOfField_X3_get : GoodIn wsX3_signsOfField wsX3_get := goodIn_r _ [15, 16, 17, 18, 19, 20, 21, 22, 23, 24] (by decide +kernel) (by decide +kernel)
set_option maxRecDepth 20000 in
theorem gX3_signsOfField_X3_get : GoodIn wsX3_signsOfField (wsV RX3 60 RX3 yX3_get wsX3_get) := goodIn_app (goodIn_of _ (by decide +kernel)) ggX3_signsOfField_X3_get
theorem dX3_signsOfField_0 : decode cX3_signsOfField 0 = .ok (.aload_n 0, 1) := by decide +kernel
theorem dX3_signsOfField_1 : decode cX3_signsOfField 1 = .ok (.iload_n 1, 1) := by decide +kernel
theorem dX3_signsOfField_2 : decode cX3_signsOfField 2 = .ok (.invokevirtual 66, 3) := by decide +kernel
theorem dX3_signsOfField_5 : decode cX3_signsOfField 5 = .ok (.istore_n 2, 1) := by decide +kernel
theorem dX3_signsOfField_6 : decode cX3_signsOfField 6 = .ok (.aload_n 0, 1) := by decide +kernel
theorem dX3_signsOfField_7 : decode cX3_signsOfField 7 = .ok (.iload_n 2, 1) := by decide +kernel
theorem dX3_signsOfField_8 : decode cX3_signsOfField 8 = .ok (.invokevirtual 69, 3) := by decide +kernel
theorem dX3_signsOfField_11 : decode cX3_signsOfField 11 = .ok (.istore_n 3, 1) := by decide +kernel
theorem dX3_signsOfField_12 : decode cX3_signsOfField 12 = .ok (.iconst 0, 1) := by decide +kernel
theorem dX3_signsOfField_13 : decode cX3_signsOfField 13 = .ok (.istore 4, 2) := by decide +kernel
theorem dX3_signsOfField_15 : decode cX3_signsOfField 15 = .ok (.iconst 0, 1) := by decide +kernel
theorem dX3_signsOfField_16 : decode cX3_signsOfField 16 = .ok (.istore 5, 2) := by decide +kernel
theorem dX3_signsOfField_18 : decode cX3_signsOfField 18 = .ok (.iload 5, 2) := by decide +kernel
theorem dX3_signsOfField_20 : decode cX3_signsOfField 20 = .ok (.iload_n 3, 1) := by decide +kernel
theorem dX3_signsOfField_21 : decode cX3_signsOfField 21 = .ok (.if_icmp .ge 26, 3) := by decide +kernel
theorem dX3_signsOfField_24 : decode cX3_signsOfField 24 = .ok (.aload_n 0, 1) := by decide +kernel
theorem dX3_signsOfField_25 : decode cX3_signsOfField 25 = .ok (.iload_n 2, 1) := by decide +kernel
theorem dX3_signsOfField_26 : decode cX3_signsOfField 26 = .ok (.invokevirtual 60, 3) := by decide +kernel
theorem dX3_signsOfField_29 : decode cX3_signsOfField 29 = .ok (.ifCond .eq 6, 3) := by decide +kernel
theorem dX3_signsOfField_32 : decode cX3_signsOfField 32 = .ok (.iinc 4 1, 3) := by decide +kernel
theorem dX3_signsOfField_35 : decode cX3_signsOfField 35 = .ok (.aload_n 0, 1) := by decide +kernel
theorem dX3_signsOfField_36 : decode cX3_signsOfField 36 = .ok (.iload_n 2, 1) := by decide +kernel
theorem dX3_signsOfField_37 : decode cX3_signsOfField 37 = .ok (.invokevirtual 66, 3) := by decide +kernel
theorem dX3_signsOfField_40 : decode cX3_signsOfField 40 = .ok (.istore_n 2, 1) := by decide +kernel
theorem dX3_signsOfField_41 : decode cX3_signsOfField 41 = .ok (.iinc 5 1, 3) := by decide +kernel
theorem dX3_signsOfField_44 : decode cX3_signsOfField 44 = .ok (.goto (-26), 3) := by decide +kernel
theorem dX3_signsOfField_47 : decode cX3_signsOfField 47 = .ok (.iload 4, 2) := by decide +kernel
theorem dX3_signsOfField_49 : decode cX3_signsOfField 49 = .ok (.ireturn, 1) := by decide +kernel
set_option maxRecDepth 20000 in
theorem ggX3_mayBeTypedIn_X3_get : GoodIn wsX3_mayBeTypedIn wsX3_get := goodIn_r _ [5, 6, 21, 22, 23, 24, 25, 26, 27, 28] (by decide +kernel) (by decide +kernel)
set_option maxRecDepth 20000 in
theorem gX3_mayBeTypedIn_X3_get : GoodIn wsX3_mayBeTypedIn (wsV RX3 60 RX3 yX3_get wsX3_get) := goodIn_app (goodIn_of _ (by decide +kernel)) ggX3_mayBeTypedIn_X3_get
set_option maxRecDepth 20000 in
theorem ggX3_mayBeTypedIn_X3_startOver : GoodIn wsX3_mayBeTypedIn wsX3_startOver := goodIn_r _ [10, 11, 12, 1, 2, 3, 4, 5, 6, 13, 14, 15, 16, 21, 22, 23, 24, 25, 26, 27, 28] (by decide +kernel) (by decide +kernel)
set_option maxRecDepth 20000 in
theorem gX3_mayBeTypedIn_X3_startOver : GoodIn wsX3_mayBeTypedIn (wsV RX3 56 RX3 yX3_startOver wsX3_startOver) := goodIn_app (goodIn_of _ (by decide +kernel)) ggX3_mayBeTypedIn_X3_startOver
set_option maxRecDepth 20000 in
theorem ggX3_mayBeTypedIn_X3_isOpen : GoodIn wsX3_mayBeTypedIn wsX3_isOpen := goodIn_r _ [20, 1, 2, 3, 4, 5, 6, 21, 22, 23, 24, 25, 26, 27, 28] (by decide +kernel) (by decide +kernel)
set_option maxRecDepth 20000 in
theorem gX3_mayBeTypedIn_X3_isOpen : GoodIn wsX3_mayBeTypedIn (wsV RX3 72 RX3 yX3_isOpen wsX3_isOpen) := goodIn_app (goodIn_of _ (by decide +kernel)) ggX3_mayBeTypedIn_X3_isOpen
theorem dX3_mayBeTypedIn_0 : decode cX3_mayBeTypedIn 0 = .ok (.aload_n 0, 1) := by decide +kernel
theorem dX3_mayBeTypedIn_1 : decode cX3_mayBeTypedIn 1 = .ok (.iload_n 1, 1) := by decide +kernel
theorem dX3_mayBeTypedIn_2 : decode cX3_mayBeTypedIn 2 = .ok (.invokevirtual 60, 3) := by decide +kernel
theorem dX3_mayBeTypedIn_5 : decode cX3_mayBeTypedIn 5 = .ok (.sipush 256, 3) := by decide +kernel
theorem dX3_mayBeTypedIn_8 : decode cX3_mayBeTypedIn 8 = .ok (.if_icmp .ge 19, 3) := by decide +kernel
theorem dX3_mayBeTypedIn_11 : decode cX3_mayBeTypedIn 11 = .ok (.aload_n 0, 1) := by decide +kernel
theorem dX3_mayBeTypedIn_12 : decode cX3_mayBeTypedIn 12 = .ok (.aload_n 0, 1) := by decide +kernel
theorem dX3_mayBeTypedIn_13 : decode cX3_mayBeTypedIn 13 = .ok (.iload_n 1, 1) := by decide +kernel
theorem dX3_mayBeTypedIn_14 : decode cX3_mayBeTypedIn 14 = .ok (.invokevirtual 56, 3) := by decide +kernel
theorem dX3_mayBeTypedIn_17 : decode cX3_mayBeTypedIn 17 = .ok (.invokevirtual 72, 3) := by decide +kernel
theorem dX3_mayBeTypedIn_20 : decode cX3_mayBeTypedIn 20 = .ok (.ifCond .eq 7, 3) := by decide +kernel
theorem dX3_mayBeTypedIn_23 : decode cX3_mayBeTypedIn 23 = .ok (.iconst 1, 1) := by decide +kernel
theorem dX3_mayBeTypedIn_24 : decode cX3_mayBeTypedIn 24 = .ok (.goto 4, 3) := by decide +kernel
theorem dX3_mayBeTypedIn_27 : decode cX3_mayBeTypedIn 27 = .ok (.iconst 0, 1) := by decide +kernel
theorem dX3_mayBeTypedIn_28 : decode cX3_mayBeTypedIn 28 = .ok (.ireturn, 1) := by decide +kernel
set_option maxRecDepth 20000 in
theorem ggX3_isOpen_X3_get : GoodIn wsX3_isOpen wsX3_get := goodIn_r _ [5, 6, 7, 8, 9, 10, 11, 12, 13, 14] (by decide +kernel) (by decide +kernel)
set_option maxRecDepth 20000 in
theorem gX3_isOpen_X3_get : GoodIn wsX3_isOpen (wsV RX3 60 RX3 yX3_get wsX3_get) := goodIn_app (goodIn_of _ (by decide +kernel)) ggX3_isOpen_X3_get
theorem dX3_isOpen_0 : decode cX3_isOpen 0 = .ok (.iload_n 1, 1) := by decide +kernel
theorem dX3_isOpen_1 : decode cX3_isOpen 1 = .ok (.iconst (-1), 1) := by decide +kernel
theorem dX3_isOpen_2 : decode cX3_isOpen 2 = .ok (.if_icmp .eq 14, 3) := by decide +kernel
theorem dX3_isOpen_5 : decode cX3_isOpen 5 = .ok (.aload_n 0, 1) := by decide +kernel
theorem dX3_isOpen_6 : decode cX3_isOpen 6 = .ok (.iload_n 1, 1) := by decide +kernel
theorem dX3_isOpen_7 : decode cX3_isOpen 7 = .ok (.invokevirtual 60, 3) := by decide +kernel
theorem dX3_isOpen_10 : decode cX3_isOpen 10 = .ok (.bipush 32, 2) := by decide +kernel
theorem dX3_isOpen_12 : decode cX3_isOpen 12 = .ok (.iand, 1) := by decide +kernel
theorem dX3_isOpen_13 : decode cX3_isOpen 13 = .ok (.ifCond .ne 7, 3) := by decide +kernel
theorem dX3_isOpen_16 : decode cX3_isOpen 16 = .ok (.iconst 1, 1) := by decide +kernel
theorem dX3_isOpen_17 : decode cX3_isOpen 17 = .ok (.goto 4, 3) := by decide +kernel
theorem dX3_isOpen_20 : decode cX3_isOpen 20 = .ok (.iconst 0, 1) := by decide +kernel
theorem dX3_isOpen_21 : decode cX3_isOpen 21 = .ok (.ireturn, 1) := by decide +kernel
set_option maxRecDepth 20000 in
theorem ggX3_firstToTypeIn_X3_startOver : GoodIn wsX3_firstToTypeIn wsX3_startOver := goodIn_r _ [6, 7, 1, 8, 9, 10, 5, 11, 12, 13, 14, 15, 16, 25, 26, 27, 28, 29, 30, 31, 32] (by decide +kernel) (by decide +kernel)
set_option maxRecDepth 20000 in
theorem gX3_firstToTypeIn_X3_startOver : GoodIn wsX3_firstToTypeIn (wsV RX3 56 RX3 yX3_startOver wsX3_startOver) := goodIn_app (goodIn_of _ (by decide +kernel)) ggX3_firstToTypeIn_X3_startOver
set_option maxRecDepth 20000 in
theorem ggX3_firstToTypeIn_X3_isOpen : GoodIn wsX3_firstToTypeIn wsX3_isOpen := goodIn_r _ [20, 8, 9, 10, 5, 11, 12, 25, 26, 27, 28, 29, 30, 31, 32] (by decide +kernel) (by decide +kernel)
set_option maxRecDepth 20000 in
theorem gX3_firstToTypeIn_X3_isOpen : GoodIn wsX3_firstToTypeIn (wsV RX3 72 RX3 yX3_isOpen wsX3_isOpen) := goodIn_app (goodIn_of _ (by decide +kernel)) ggX3_firstToTypeIn_X3_isOpen
set_option maxRecDepth 20000 in
theorem ggX3_firstToTypeIn_X3_get : GoodIn wsX3_firstToTypeIn wsX3_get := goodIn_r _ [11, 12, 25, 26, 27, 28, 29, 30, 31, 32] (by decide +kernel) (by decide +kernel)
set_option maxRecDepth 20000 in
theorem gX3_firstToTypeIn_X3_get : GoodIn wsX3_firstToTypeIn (wsV RX3 60 RX3 yX3_get wsX3_get) := goodIn_app (goodIn_of _ (by decide +kernel)) ggX3_firstToTypeIn_X3_get
set_option maxRecDepth 20000 in
theorem ggX3_firstToTypeIn_X3_after : GoodIn wsX3_firstToTypeIn wsX3_after := goodIn_r _ [24, 1, 25, 26, 27, 28, 29, 30, 31, 32] (by decide +kernel) (by decide +kernel)
set_option maxRecDepth 20000 in
theorem gX3_firstToTypeIn_X3_after : GoodIn wsX3_firstToTypeIn (wsV RX3 66 RX3 yX3_after wsX3_after) := goodIn_app (goodIn_of _ (by decide +kernel)) ggX3_firstToTypeIn_X3_after
theorem dX3_firstToTypeIn_0 : decode cX3_firstToTypeIn 0 = .ok (.aload_n 0, 1) := by decide +kernel
theorem dX3_firstToTypeIn_1 : decode cX3_firstToTypeIn 1 = .ok (.aload_n 0, 1) := by decide +kernel
theorem dX3_firstToTypeIn_2 : decode cX3_firstToTypeIn 2 = .ok (.iload_n 1, 1) := by decide +kernel
theorem dX3_firstToTypeIn_3 : decode cX3_firstToTypeIn 3 = .ok (.invokevirtual 56, 3) := by decide +kernel
theorem dX3_firstToTypeIn_6 : decode cX3_firstToTypeIn 6 = .ok (.invokevirtual 72, 3) := by decide +kernel
theorem dX3_firstToTypeIn_9 : decode cX3_firstToTypeIn 9 = .ok (.istore_n 2, 1) := by decide +kernel
theorem dX3_firstToTypeIn_10 : decode cX3_firstToTypeIn 10 = .ok (.iload_n 1, 1) := by decide +kernel
theorem dX3_firstToTypeIn_11 : decode cX3_firstToTypeIn 11 = .ok (.istore_n 3, 1) := by decide +kernel
theorem dX3_firstToTypeIn_12 : decode cX3_firstToTypeIn 12 = .ok (.iconst 0, 1) := by decide +kernel
theorem dX3_firstToTypeIn_13 : decode cX3_firstToTypeIn 13 = .ok (.istore 4, 2) := by decide +kernel
theorem dX3_firstToTypeIn_15 : decode cX3_firstToTypeIn 15 = .ok (.iload 4, 2) := by decide +kernel
theorem dX3_firstToTypeIn_17 : decode cX3_firstToTypeIn 17 = .ok (.aload_n 0, 1) := by decide +kernel
theorem dX3_firstToTypeIn_18 : decode cX3_firstToTypeIn 18 = .ok (.getfield 37, 3) := by decide +kernel
theorem dX3_firstToTypeIn_21 : decode cX3_firstToTypeIn 21 = .ok (.if_icmp .ge 41, 3) := by decide +kernel
theorem dX3_firstToTypeIn_24 : decode cX3_firstToTypeIn 24 = .ok (.aload_n 0, 1) := by decide +kernel
theorem dX3_firstToTypeIn_25 : decode cX3_firstToTypeIn 25 = .ok (.iload_n 3, 1) := by decide +kernel
theorem dX3_firstToTypeIn_26 : decode cX3_firstToTypeIn 26 = .ok (.invokevirtual 60, 3) := by decide +kernel
theorem dX3_firstToTypeIn_29 : decode cX3_firstToTypeIn 29 = .ok (.sipush 256, 3) := by decide +kernel
theorem dX3_firstToTypeIn_32 : decode cX3_firstToTypeIn 32 = .ok (.if_icmp .lt 12, 3) := by decide +kernel
theorem dX3_firstToTypeIn_35 : decode cX3_firstToTypeIn 35 = .ok (.aload_n 0, 1) := by decide +kernel
theorem dX3_firstToTypeIn_36 : decode cX3_firstToTypeIn 36 = .ok (.iload_n 3, 1) := by decide +kernel
theorem dX3_firstToTypeIn_37 : decode cX3_firstToTypeIn 37 = .ok (.invokevirtual 72, 3) := by decide +kernel
theorem dX3_firstToTypeIn_40 : decode cX3_firstToTypeIn 40 = .ok (.istore_n 2, 1) := by decide +kernel
theorem dX3_firstToTypeIn_41 : decode cX3_firstToTypeIn 41 = .ok (.goto 9, 3) := by decide +kernel
theorem dX3_firstToTypeIn_44 : decode cX3_firstToTypeIn 44 = .ok (.iload_n 2, 1) := by decide +kernel
theorem dX3_firstToTypeIn_45 : decode cX3_firstToTypeIn 45 = .ok (.ifCond .eq 5, 3) := by decide +kernel
theorem dX3_firstToTypeIn_48 : decode cX3_firstToTypeIn 48 = .ok (.iload_n 3, 1) := by decide +kernel
theorem dX3_firstToTypeIn_49 : decode cX3_firstToTypeIn 49 = .ok (.ireturn, 1) := by decide +kernel
theorem dX3_firstToTypeIn_50 : decode cX3_firstToTypeIn 50 = .ok (.aload_n 0, 1) := by decide +kernel
theorem dX3_firstToTypeIn_51 : decode cX3_firstToTypeIn 51 = .ok (.iload_n 3, 1) := by decide +kernel
theorem dX3_firstToTypeIn_52 : decode cX3_firstToTypeIn 52 = .ok (.invokevirtual 66, 3) := by decide +kernel
theorem dX3_firstToTypeIn_55 : decode cX3_firstToTypeIn 55 = .ok (.istore_n 3, 1) := by decide +kernel
theorem dX3_firstToTypeIn_56 : decode cX3_firstToTypeIn 56 = .ok (.iinc 4 1, 3) := by decide +kernel
theorem dX3_firstToTypeIn_59 : decode cX3_firstToTypeIn 59 = .ok (.goto (-44), 3) := by decide +kernel
theorem dX3_firstToTypeIn_62 : decode cX3_firstToTypeIn 62 = .ok (.iconst 0, 1) := by decide +kernel
theorem dX3_firstToTypeIn_63 : decode cX3_firstToTypeIn 63 = .ok (.ireturn, 1) := by decide +kernel
set_option maxRecDepth 20000 in
theorem ggX3_nextTabStop_X3_isTabStop : GoodIn wsX3_nextTabStop wsX3_isTabStop := goodIn_r _ [6, 7, 8, 9, 5, 10, 11, 12, 13, 14, 15, 16, 17, 18, 19, 20, 21, 22, 23, 1, 24, 25, 26, 27, 28, 29, 30, 31] (by decide +kernel) (by decide +kernel)
set_option maxRecDepth 20000 in
theorem gX3_nextTabStop_X3_isTabStop : GoodIn wsX3_nextTabStop (wsV RX3 76 RX3 yX3_isTabStop wsX3_isTabStop) := goodIn_app (goodIn_of _ (by decide +kernel)) ggX3_nextTabStop_X3_isTabStop
set_option maxRecDepth 20000 in
theorem ggX3_nextTabStop_X3_after : GoodIn wsX3_nextTabStop wsX3_after := goodIn_r _ [23, 1, 24, 25, 26, 27, 28, 29, 30, 31] (by decide +kernel) (by decide +kernel)
set_option maxRecDepth 20000 in
theorem gX3_nextTabStop_X3_after : GoodIn wsX3_nextTabStop (wsV RX3 66 RX3 yX3_after wsX3_after) := goodIn_app (goodIn_of _ (by decide +kernel)) ggX3_nextTabStop_X3_after
theorem dX3_nextTabStop_0 : decode cX3_nextTabStop 0 = .ok (.iload_n 1, 1) := by decide +kernel
theorem dX3_nextTabStop_1 : decode cX3_nextTabStop 1 = .ok (.istore_n 2, 1) := by decide +kernel
theorem dX3_nextTabStop_2 : decode cX3_nextTabStop 2 = .ok (.iconst 0, 1) := by decide +kernel
theorem dX3_nextTabStop_3 : decode cX3_nextTabStop 3 = .ok (.istore_n 3, 1) := by decide +kernel
theorem dX3_nextTabStop_4 : decode cX3_nextTabStop 4 = .ok (.iload_n 3, 1) := by decide +kernel
theorem dX3_nextTabStop_5 : decode cX3_nextTabStop 5 = .ok (.aload_n 0, 1) := by decide +kernel
theorem dX3_nextTabStop_6 : decode cX3_nextTabStop 6 = .ok (.getfield 37, 3) := by decide +kernel
theorem dX3_nextTabStop_9 : decode cX3_nextTabStop 9 = .ok (.if_icmp .ge 29, 3) := by decide +kernel
theorem dX3_nextTabStop_12 : decode cX3_nextTabStop 12 = .ok (.aload_n 0, 1) := by decide +kernel
theorem dX3_nextTabStop_13 : decode cX3_nextTabStop 13 = .ok (.iload_n 2, 1) := by decide +kernel
theorem dX3_nextTabStop_14 : decode cX3_nextTabStop 14 = .ok (.invokevirtual 76, 3) := by decide +kernel
theorem dX3_nextTabStop_17 : decode cX3_nextTabStop 17 = .ok (.ifCond .eq 9, 3) := by decide +kernel
theorem dX3_nextTabStop_20 : decode cX3_nextTabStop 20 = .ok (.aload_n 0, 1) := by decide +kernel
theorem dX3_nextTabStop_21 : decode cX3_nextTabStop 21 = .ok (.iload_n 2, 1) := by decide +kernel
theorem dX3_nextTabStop_22 : decode cX3_nextTabStop 22 = .ok (.invokevirtual 66, 3) := by decide +kernel
theorem dX3_nextTabStop_25 : decode cX3_nextTabStop 25 = .ok (.ireturn, 1) := by decide +kernel
theorem dX3_nextTabStop_26 : decode cX3_nextTabStop 26 = .ok (.aload_n 0, 1) := by decide +kernel
theorem dX3_nextTabStop_27 : decode cX3_nextTabStop 27 = .ok (.iload_n 2, 1) := by decide +kernel
theorem dX3_nextTabStop_28 : decode cX3_nextTabStop 28 = .ok (.invokevirtual 66, 3) := by decide +kernel
theorem dX3_nextTabStop_31 : decode cX3_nextTabStop 31 = .ok (.istore_n 2, 1) := by decide +kernel
theorem dX3_nextTabStop_32 : decode cX3_nextTabStop 32 = .ok (.iinc 3 1, 3) := by decide +kernel
theorem dX3_nextTabStop_35 : decode cX3_nextTabStop 35 = .ok (.goto (-31), 3) := by decide +kernel
theorem dX3_nextTabStop_38 : decode cX3_nextTabStop 38 = .ok (.iconst 0, 1) := by decide +kernel
theorem dX3_nextTabStop_39 : decode cX3_nextTabStop 39 = .ok (.ireturn, 1) := by decide +kernel
set_option maxRecDepth 20000 in
theorem ggX3_previousTabStop_X3_before : GoodIn wsX3_previousTabStop wsX3_before := goodIn_r _ [6, 1, 28, 29, 30, 31, 32, 33, 34, 35] (by decide +kernel) (by decide +kernel)
set_option maxRecDepth 20000 in
theorem gX3_previousTabStop_X3_before : GoodIn wsX3_previousTabStop (wsV RX3 63 RX3 yX3_before wsX3_before) := goodIn_app (goodIn_of _ (by decide +kernel)) ggX3_previousTabStop_X3_before
set_option maxRecDepth 20000 in
theorem ggX3_previousTabStop_X3_isTabStop : GoodIn wsX3_previousTabStop wsX3_isTabStop := goodIn_r _ [10, 11, 12, 13, 5, 14, 15, 16, 17, 18, 19, 20, 21, 22, 23, 24, 25, 26, 27, 1, 28, 29, 30, 31, 32, 33, 34, 35] (by decide +kernel) (by decide +kernel)
set_option maxRecDepth 20000 in
theorem gX3_previousTabStop_X3_isTabStop : GoodIn wsX3_previousTabStop (wsV RX3 76 RX3 yX3_isTabStop wsX3_isTabStop) := goodIn_app (goodIn_of _ (by decide +kernel)) ggX3_previousTabStop_X3_isTabStop
theorem dX3_previousTabStop_0 : decode cX3_previousTabStop 0 = .ok (.aload_n 0, 1) := by decide +kernel
theorem dX3_previousTabStop_1 : decode cX3_previousTabStop 1 = .ok (.iload_n 1, 1) := by decide +kernel
theorem dX3_previousTabStop_2 : decode cX3_previousTabStop 2 = .ok (.invokevirtual 63, 3) := by decide +kernel
theorem dX3_previousTabStop_5 : decode cX3_previousTabStop 5 = .ok (.istore_n 2, 1) := by decide +kernel
theorem dX3_previousTabStop_6 : decode cX3_previousTabStop 6 = .ok (.iconst 0, 1) := by decide +kernel
theorem dX3_previousTabStop_7 : decode cX3_previousTabStop 7 = .ok (.istore_n 3, 1) := by decide +kernel
theorem dX3_previousTabStop_8 : decode cX3_previousTabStop 8 = .ok (.iload_n 3, 1) := by decide +kernel
theorem dX3_previousTabStop_9 : decode cX3_previousTabStop 9 = .ok (.aload_n 0, 1) := by decide +kernel
theorem dX3_previousTabStop_10 : decode cX3_previousTabStop 10 = .ok (.getfield 37, 3) := by decide +kernel
theorem dX3_previousTabStop_13 : decode cX3_previousTabStop 13 = .ok (.if_icmp .ge 29, 3) := by decide +kernel
theorem dX3_previousTabStop_16 : decode cX3_previousTabStop 16 = .ok (.aload_n 0, 1) := by decide +kernel
theorem dX3_previousTabStop_17 : decode cX3_previousTabStop 17 = .ok (.aload_n 0, 1) := by decide +kernel
theorem dX3_previousTabStop_18 : decode cX3_previousTabStop 18 = .ok (.iload_n 2, 1) := by decide +kernel
theorem dX3_previousTabStop_19 : decode cX3_previousTabStop 19 = .ok (.invokevirtual 63, 3) := by decide +kernel
theorem dX3_previousTabStop_22 : decode cX3_previousTabStop 22 = .ok (.invokevirtual 76, 3) := by decide +kernel
theorem dX3_previousTabStop_25 : decode cX3_previousTabStop 25 = .ok (.ifCond .eq 5, 3) := by decide +kernel
theorem dX3_previousTabStop_28 : decode cX3_previousTabStop 28 = .ok (.iload_n 2, 1) := by decide +kernel
theorem dX3_previousTabStop_29 : decode cX3_previousTabStop 29 = .ok (.ireturn, 1) := by decide +kernel
theorem dX3_previousTabStop_30 : decode cX3_previousTabStop 30 = .ok (.aload_n 0, 1) := by decide +kernel
theorem dX3_previousTabStop_31 : decode cX3_previousTabStop 31 = .ok (.iload_n 2, 1) := by decide +kernel
theorem dX3_previousTabStop_32 : decode cX3_previousTabStop 32 = .ok (.invokevirtual 63, 3) := by decide +kernel
theorem dX3_previousTabStop_35 : decode cX3_previousTabStop 35 = .ok (.istore_n 2, 1) := by decide +kernel
theorem dX3_previousTabStop_36 : decode cX3_previousTabStop 36 = .ok (.iinc 3 1, 3) := by decide +kernel
theorem dX3_previousTabStop_39 : decode cX3_previousTabStop 39 = .ok (.goto (-31), 3) := by decide +kernel
theorem dX3_previousTabStop_42 : decode cX3_previousTabStop 42 = .ok (.iconst 0, 1) := by decide +kernel
theorem dX3_previousTabStop_43 : decode cX3_previousTabStop 43 = .ok (.ireturn, 1) := by decide +kernel
set_option maxRecDepth 20000 in
theorem ggX3_startsOpenField_X3_get : GoodIn wsX3_startsOpenField wsX3_get := goodIn_r _ [5, 6, 11, 12, 13, 14, 15, 16, 17, 18] (by decide +kernel) (by decide +kernel)
set_option maxRecDepth 20000 in
theorem gX3_startsOpenField_X3_get : GoodIn wsX3_startsOpenField (wsV RX3 60 RX3 yX3_get wsX3_get) := goodIn_app (goodIn_of _ (by decide +kernel)) ggX3_startsOpenField_X3_get
set_option maxRecDepth 20000 in
theorem ggX3_startsOpenField_X3_isOpen : GoodIn wsX3_startsOpenField wsX3_isOpen := goodIn_r _ [10, 1, 2, 3, 4, 5, 6, 11, 12, 13, 14, 15, 16, 17, 18] (by decide +kernel) (by decide +kernel)
set_option maxRecDepth 20000 in
theorem gX3_startsOpenField_X3_isOpen : GoodIn wsX3_startsOpenField (wsV RX3 72 RX3 yX3_isOpen wsX3_isOpen) := goodIn_app (goodIn_of _ (by decide +kernel)) ggX3_startsOpenField_X3_isOpen
theorem dX3_startsOpenField_0 : decode cX3_startsOpenField 0 = .ok (.aload_n 0, 1) := by decide +kernel
theorem dX3_startsOpenField_1 : decode cX3_startsOpenField 1 = .ok (.iload_n 1, 1) := by decide +kernel
theorem dX3_startsOpenField_2 : decode cX3_startsOpenField 2 = .ok (.invokevirtual 60, 3) := by decide +kernel
theorem dX3_startsOpenField_5 : decode cX3_startsOpenField 5 = .ok (.sipush 256, 3) := by decide +kernel
theorem dX3_startsOpenField_8 : decode cX3_startsOpenField 8 = .ok (.if_icmp .lt 15, 3) := by decide +kernel
theorem dX3_startsOpenField_11 : decode cX3_startsOpenField 11 = .ok (.aload_n 0, 1) := by decide +kernel
theorem dX3_startsOpenField_12 : decode cX3_startsOpenField 12 = .ok (.iload_n 1, 1) := by decide +kernel
theorem dX3_startsOpenField_13 : decode cX3_startsOpenField 13 = .ok (.invokevirtual 72, 3) := by decide +kernel
theorem dX3_startsOpenField_16 : decode cX3_startsOpenField 16 = .ok (.ifCond .eq 7, 3) := by decide +kernel
theorem dX3_startsOpenField_19 : decode cX3_startsOpenField 19 = .ok (.iconst 1, 1) := by decide +kernel
theorem dX3_startsOpenField_20 : decode cX3_startsOpenField 20 = .ok (.goto 4, 3) := by decide +kernel
theorem dX3_startsOpenField_23 : decode cX3_startsOpenField 23 = .ok (.iconst 0, 1) := by decide +kernel
theorem dX3_startsOpenField_24 : decode cX3_startsOpenField 24 = .ok (.ireturn, 1) := by decide +kernel
set_option maxRecDepth 20000 in
theorem ggX3_isTabStop_X3_startsOpenField : GoodIn wsX3_isTabStop wsX3_startsOpenField := goodIn_r _ [5, 6, 7, 8, 4, 9, 10, 11, 12, 13, 14, 20, 21, 22, 23, 24, 25, 26, 27] (by decide +kernel) (by decide +kernel)
set_option maxRecDepth 20000 in
theorem gX3_isTabStop_X3_startsOpenField : GoodIn wsX3_isTabStop (wsV RX3 79 RX3 yX3_startsOpenField wsX3_startsOpenField) := goodIn_app (goodIn_of _ (by decide +kernel)) ggX3_isTabStop_X3_startsOpenField
set_option maxRecDepth 20000 in
theorem ggX3_isTabStop_X3_after : GoodIn wsX3_isTabStop wsX3_after := goodIn_r _ [18, 19, 20, 21, 22, 23, 24, 25, 26, 27] (by decide +kernel) (by decide +kernel)
set_option maxRecDepth 20000 in
theorem gX3_isTabStop_X3_after : GoodIn wsX3_isTabStop (wsV RX3 66 RX3 yX3_after wsX3_after) := goodIn_app (goodIn_of _ (by decide +kernel)) ggX3_isTabStop_X3_after
set_option maxRecDepth 20000 in
theorem ggX3_isTabStop_X3_get : GoodIn wsX3_isTabStop wsX3_get := goodIn_r _ [9, 10, 20, 21, 22, 23, 24, 25, 26, 27] (by decide +kernel) (by decide +kernel)
set_option maxRecDepth 20000 in
theorem gX3_isTabStop_X3_get : GoodIn wsX3_isTabStop (wsV RX3 60 RX3 yX3_get wsX3_get) := goodIn_app (goodIn_of _ (by decide +kernel)) ggX3_isTabStop_X3_get
theorem dX3_isTabStop_0 : decode cX3_isTabStop 0 = .ok (.aload_n 0, 1) := by decide +kernel
theorem dX3_isTabStop_1 : decode cX3_isTabStop 1 = .ok (.iload_n 1, 1) := by decide +kernel
theorem dX3_isTabStop_2 : decode cX3_isTabStop 2 = .ok (.invokevirtual 79, 3) := by decide +kernel
theorem dX3_isTabStop_5 : decode cX3_isTabStop 5 = .ok (.ifCond .eq 22, 3) := by decide +kernel
theorem dX3_isTabStop_8 : decode cX3_isTabStop 8 = .ok (.aload_n 0, 1) := by decide +kernel
theorem dX3_isTabStop_9 : decode cX3_isTabStop 9 = .ok (.aload_n 0, 1) := by decide +kernel
theorem dX3_isTabStop_10 : decode cX3_isTabStop 10 = .ok (.iload_n 1, 1) := by decide +kernel
theorem dX3_isTabStop_11 : decode cX3_isTabStop 11 = .ok (.invokevirtual 66, 3) := by decide +kernel
theorem dX3_isTabStop_14 : decode cX3_isTabStop 14 = .ok (.invokevirtual 60, 3) := by decide +kernel
theorem dX3_isTabStop_17 : decode cX3_isTabStop 17 = .ok (.sipush 256, 3) := by decide +kernel
theorem dX3_isTabStop_20 : decode cX3_isTabStop 20 = .ok (.if_icmp .ge 7, 3) := by decide +kernel
theorem dX3_isTabStop_23 : decode cX3_isTabStop 23 = .ok (.iconst 1, 1) := by decide +kernel
theorem dX3_isTabStop_24 : decode cX3_isTabStop 24 = .ok (.goto 4, 3) := by decide +kernel
theorem dX3_isTabStop_27 : decode cX3_isTabStop 27 = .ok (.iconst 0, 1) := by decide +kernel
theorem dX3_isTabStop_28 : decode cX3_isTabStop 28 = .ok (.ireturn, 1) := by decide +kernel
set_option maxRecDepth 20000 in
theorem ggX3_noneModified_X3_clearModified : GoodIn wsX3_noneModified wsX3_clearModified := goodIn_r _ [6, 7, 8, 9, 5, 10, 11, 12, 13, 14, 15, 16, 17, 18, 19, 20, 21, 22, 23, 24] (by decide +kernel) (by decide +kernel)
set_option maxRecDepth 20000 in
theorem gX3_noneModified_X3_clearModified : GoodIn wsX3_noneModified (wsV RX3 82 RX3 yX3_clearModified wsX3_clearModified) := goodIn_app (goodIn_of _ (by decide +kernel)) ggX3_noneModified_X3_clearModified
theorem dX3_noneModified_0 : decode cX3_noneModified 0 = .ok (.iconst 0, 1) := by decide +kernel
theorem dX3_noneModified_1 : decode cX3_noneModified 1 = .ok (.istore_n 1, 1) := by decide +kernel
theorem dX3_noneModified_2 : decode cX3_noneModified 2 = .ok (.iload_n 1, 1) := by decide +kernel
theorem dX3_noneModified_3 : decode cX3_noneModified 3 = .ok (.aload_n 0, 1) := by decide +kernel
theorem dX3_noneModified_4 : decode cX3_noneModified 4 = .ok (.getfield 37, 3) := by decide +kernel
theorem dX3_noneModified_7 : decode cX3_noneModified 7 = .ok (.if_icmp .ge 14, 3) := by decide +kernel
theorem dX3_noneModified_10 : decode cX3_noneModified 10 = .ok (.aload_n 0, 1) := by decide +kernel
theorem dX3_noneModified_11 : decode cX3_noneModified 11 = .ok (.iload_n 1, 1) := by decide +kernel
theorem dX3_noneModified_12 : decode cX3_noneModified 12 = .ok (.invokevirtual 82, 3) := by decide +kernel
theorem dX3_noneModified_15 : decode cX3_noneModified 15 = .ok (.iinc 1 1, 3) := by decide +kernel
theorem dX3_noneModified_18 : decode cX3_noneModified 18 = .ok (.goto (-16), 3) := by decide +kernel
theorem dX3_noneModified_21 : decode cX3_noneModified 21 = .ok (.return_, 1) := by decide +kernel
set_option maxRecDepth 20000 in
theorem ggX3_clearModified_X3_get : GoodIn wsX3_clearModified wsX3_get := goodIn_r _ [5, 6, 12, 13, 14, 15, 16, 17, 18, 19] (by decide +kernel) (by decide +kernel)
set_option maxRecDepth 20000 in
theorem gX3_clearModified_X3_get : GoodIn wsX3_clearModified (wsV RX3 60 RX3 yX3_get wsX3_get) := goodIn_app (goodIn_of _ (by decide +kernel)) ggX3_clearModified_X3_get
set_option maxRecDepth 20000 in
theorem ggX3_clearModified_X3_put : GoodIn wsX3_clearModified wsX3_put := goodIn_r _ [10, 6, 11, 12, 13, 14, 15, 16, 17, 18, 19] (by decide +kernel) (by decide +kernel)
set_option maxRecDepth 20000 in
theorem gX3_clearModified_X3_put : GoodIn wsX3_clearModified (wsV RX3 86 RX3 yX3_put wsX3_put) := goodIn_app (goodIn_of _ (by decide +kernel)) ggX3_clearModified_X3_put
theorem dX3_clearModified_0 : decode cX3_clearModified 0 = .ok (.aload_n 0, 1) := by decide +kernel
theorem dX3_clearModified_1 : decode cX3_clearModified 1 = .ok (.iload_n 1, 1) := by decide +kernel
theorem dX3_clearModified_2 : decode cX3_clearModified 2 = .ok (.invokevirtual 60, 3) := by decide +kernel
theorem dX3_clearModified_5 : decode cX3_clearModified 5 = .ok (.istore_n 2, 1) := by decide +kernel
theorem dX3_clearModified_6 : decode cX3_clearModified 6 = .ok (.iload_n 2, 1) := by decide +kernel
theorem dX3_clearModified_7 : decode cX3_clearModified 7 = .ok (.sipush 256, 3) := by decide +kernel
theorem dX3_clearModified_10 : decode cX3_clearModified 10 = .ok (.if_icmp .lt 12, 3) := by decide +kernel
theorem dX3_clearModified_13 : decode cX3_clearModified 13 = .ok (.aload_n 0, 1) := by decide +kernel
theorem dX3_clearModified_14 : decode cX3_clearModified 14 = .ok (.iload_n 1, 1) := by decide +kernel
theorem dX3_clearModified_15 : decode cX3_clearModified 15 = .ok (.iload_n 2, 1) := by decide +kernel
theorem dX3_clearModified_16 : decode cX3_clearModified 16 = .ok (.bipush (-2), 2) := by decide +kernel
theorem dX3_clearModified_18 : decode cX3_clearModified 18 = .ok (.iand, 1) := by decide +kernel
theorem dX3_clearModified_19 : decode cX3_clearModified 19 = .ok (.invokevirtual 86, 3) := by decide +kernel
theorem dX3_clearModified_22 : decode cX3_clearModified 22 = .ok (.return_, 1) := by decide +kernel
set_option maxRecDepth 20000 in
theorem ggX3_markModified_X3_startOver : GoodIn wsX3_markModified wsX3_startOver := goodIn_r _ [5, 6, 7, 8, 9, 10, 4, 11, 12, 13, 14, 15, 16, 21, 22, 23, 24, 25, 26, 27, 28] (by decide +kernel) (by decide +kernel)
set_option maxRecDepth 20000 in
theorem gX3_markModified_X3_startOver : GoodIn wsX3_markModified (wsV RX3 56 RX3 yX3_startOver wsX3_startOver) := goodIn_app (goodIn_of _ (by decide +kernel)) ggX3_markModified_X3_startOver
set_option maxRecDepth 20000 in
theorem ggX3_markModified_X3_get : GoodIn wsX3_markModified wsX3_get := goodIn_r _ [11, 12, 21, 22, 23, 24, 25, 26, 27, 28] (by decide +kernel) (by decide +kernel)
set_option maxRecDepth 20000 in
theorem gX3_markModified_X3_get : GoodIn wsX3_markModified (wsV RX3 60 RX3 yX3_get wsX3_get) := goodIn_app (goodIn_of _ (by decide +kernel)) ggX3_markModified_X3_get
set_option maxRecDepth 20000 in
theorem ggX3_markModified_X3_put : GoodIn wsX3_markModified wsX3_put := goodIn_r _ [20, 12, 6, 21, 22, 23, 24, 25, 26, 27, 28] (by decide +kernel) (by decide +kernel)
set_option maxRecDepth 20000 in
theorem gX3_markModified_X3_put : GoodIn wsX3_markModified (wsV RX3 86 RX3 yX3_put wsX3_put) := goodIn_app (goodIn_of _ (by decide +kernel)) ggX3_markModified_X3_put
theorem dX3_markModified_0 : decode cX3_markModified 0 = .ok (.aload_n 0, 1) := by decide +kernel
theorem dX3_markModified_1 : decode cX3_markModified 1 = .ok (.iload_n 1, 1) := by decide +kernel
theorem dX3_markModified_2 : decode cX3_markModified 2 = .ok (.invokevirtual 56, 3) := by decide +kernel
theorem dX3_markModified_5 : decode cX3_markModified 5 = .ok (.istore_n 2, 1) := by decide +kernel
theorem dX3_markModified_6 : decode cX3_markModified 6 = .ok (.iload_n 2, 1) := by decide +kernel
theorem dX3_markModified_7 : decode cX3_markModified 7 = .ok (.iconst (-1), 1) := by decide +kernel
theorem dX3_markModified_8 : decode cX3_markModified 8 = .ok (.if_icmp .eq 15, 3) := by decide +kernel
theorem dX3_markModified_11 : decode cX3_markModified 11 = .ok (.aload_n 0, 1) := by decide +kernel
theorem dX3_markModified_12 : decode cX3_markModified 12 = .ok (.iload_n 2, 1) := by decide +kernel
theorem dX3_markModified_13 : decode cX3_markModified 13 = .ok (.aload_n 0, 1) := by decide +kernel
theorem dX3_markModified_14 : decode cX3_markModified 14 = .ok (.iload_n 2, 1) := by decide +kernel
theorem dX3_markModified_15 : decode cX3_markModified 15 = .ok (.invokevirtual 60, 3) := by decide +kernel
theorem dX3_markModified_18 : decode cX3_markModified 18 = .ok (.iconst 1, 1) := by decide +kernel
theorem dX3_markModified_19 : decode cX3_markModified 19 = .ok (.ior, 1) := by decide +kernel
theorem dX3_markModified_20 : decode cX3_markModified 20 = .ok (.invokevirtual 86, 3) := by decide +kernel
theorem dX3_markModified_23 : decode cX3_markModified 23 = .ok (.return_, 1) := by decide +kernel
set_option maxRecDepth 20000 in
theorem ggX3_fill_X3_put : GoodIn wsX3_fill wsX3_put := goodIn_r _ [5, 6, 7, 13, 14, 15, 16, 17, 18, 19, 20] (by decide +kernel) (by decide +kernel)
set_option maxRecDepth 20000 in
theorem gX3_fill_X3_put : GoodIn wsX3_fill (wsV RX3 86 RX3 yX3_put wsX3_put) := goodIn_app (goodIn_of _ (by decide +kernel)) ggX3_fill_X3_put
set_option maxRecDepth 20000 in
theorem ggX3_fill_X3_after : GoodIn wsX3_fill wsX3_after := goodIn_r _ [11, 12, 13, 14, 15, 16, 17, 18, 19, 20] (by decide +kernel) (by decide +kernel)
set_option maxRecDepth 20000 in
theorem gX3_fill_X3_after : GoodIn wsX3_fill (wsV RX3 66 RX3 yX3_after wsX3_after) := goodIn_app (goodIn_of _ (by decide +kernel)) ggX3_fill_X3_after
theorem dX3_fill_0 : decode cX3_fill 0 = .ok (.iload_n 1, 1) := by decide +kernel
theorem dX3_fill_1 : decode cX3_fill 1 = .ok (.istore 4, 2) := by decide +kernel
theorem dX3_fill_3 : decode cX3_fill 3 = .ok (.iconst 0, 1) := by decide +kernel
theorem dX3_fill_4 : decode cX3_fill 4 = .ok (.istore 5, 2) := by decide +kernel
theorem dX3_fill_6 : decode cX3_fill 6 = .ok (.iload 5, 2) := by decide +kernel
theorem dX3_fill_8 : decode cX3_fill 8 = .ok (.iload_n 2, 1) := by decide +kernel
theorem dX3_fill_9 : decode cX3_fill 9 = .ok (.if_icmp .ge 24, 3) := by decide +kernel
theorem dX3_fill_12 : decode cX3_fill 12 = .ok (.aload_n 0, 1) := by decide +kernel
theorem dX3_fill_13 : decode cX3_fill 13 = .ok (.iload 4, 2) := by decide +kernel
theorem dX3_fill_15 : decode cX3_fill 15 = .ok (.iload_n 3, 1) := by decide +kernel
theorem dX3_fill_16 : decode cX3_fill 16 = .ok (.invokevirtual 86, 3) := by decide +kernel
theorem dX3_fill_19 : decode cX3_fill 19 = .ok (.aload_n 0, 1) := by decide +kernel
theorem dX3_fill_20 : decode cX3_fill 20 = .ok (.iload 4, 2) := by decide +kernel
theorem dX3_fill_22 : decode cX3_fill 22 = .ok (.invokevirtual 66, 3) := by decide +kernel
theorem dX3_fill_25 : decode cX3_fill 25 = .ok (.istore 4, 2) := by decide +kernel
theorem dX3_fill_27 : decode cX3_fill 27 = .ok (.iinc 5 1, 3) := by decide +kernel
theorem dX3_fill_30 : decode cX3_fill 30 = .ok (.goto (-24), 3) := by decide +kernel
theorem dX3_fill_33 : decode cX3_fill 33 = .ok (.return_, 1) := by decide +kernel
set_option maxRecDepth 20000 in
theorem ggX3_emptyOpenCells_X3_startOver : GoodIn wsX3_emptyOpenCells wsX3_startOver := goodIn_r _ [5, 6, 7, 8, 9, 10, 4, 11, 12, 13, 14, 15, 16, 29, 30, 31, 32, 33, 34, 35, 36] (by decide +kernel) (by decide +kernel)
set_option maxRecDepth 20000 in
theorem gX3_emptyOpenCells_X3_startOver : GoodIn wsX3_emptyOpenCells (wsV RX3 56 RX3 yX3_startOver wsX3_startOver) := goodIn_app (goodIn_of _ (by decide +kernel)) ggX3_emptyOpenCells_X3_startOver
set_option maxRecDepth 20000 in
theorem ggX3_emptyOpenCells_X3_isOpen : GoodIn wsX3_emptyOpenCells wsX3_isOpen := goodIn_r _ [20, 8, 9, 10, 4, 11, 12, 29, 30, 31, 32, 33, 34, 35, 36] (by decide +kernel) (by decide +kernel)
set_option maxRecDepth 20000 in
theorem gX3_emptyOpenCells_X3_isOpen : GoodIn wsX3_emptyOpenCells (wsV RX3 72 RX3 yX3_isOpen wsX3_isOpen) := goodIn_app (goodIn_of _ (by decide +kernel)) ggX3_emptyOpenCells_X3_isOpen
set_option maxRecDepth 20000 in
theorem ggX3_emptyOpenCells_X3_get : GoodIn wsX3_emptyOpenCells wsX3_get := goodIn_r _ [11, 12, 29, 30, 31, 32, 33, 34, 35, 36] (by decide +kernel) (by decide +kernel)
set_option maxRecDepth 20000 in
theorem gX3_emptyOpenCells_X3_get : GoodIn wsX3_emptyOpenCells (wsV RX3 60 RX3 yX3_get wsX3_get) := goodIn_app (goodIn_of _ (by decide +kernel)) ggX3_emptyOpenCells_X3_get
set_option maxRecDepth 20000 in
theorem ggX3_emptyOpenCells_X3_put : GoodIn wsX3_emptyOpenCells wsX3_put := goodIn_r _ [24, 12, 6, 29, 30, 31, 32, 33, 34, 35, 36] (by decide +kernel) (by decide +kernel)
set_option maxRecDepth 20000 in
theorem gX3_emptyOpenCells_X3_put : GoodIn wsX3_emptyOpenCells (wsV RX3 86 RX3 yX3_put wsX3_put) := goodIn_app (goodIn_of _ (by decide +kernel)) ggX3_emptyOpenCells_X3_put
set_option maxRecDepth 20000 in
theorem ggX3_emptyOpenCells_X3_after : GoodIn wsX3_emptyOpenCells wsX3_after := goodIn_r _ [28, 7, 29, 30, 31, 32, 33, 34, 35, 36] (by decide +kernel) (by decide +kernel)
set_option maxRecDepth 20000 in
theorem gX3_emptyOpenCells_X3_after : GoodIn wsX3_emptyOpenCells (wsV RX3 66 RX3 yX3_after wsX3_after) := goodIn_app (goodIn_of _ (by decide +kernel)) ggX3_emptyOpenCells_X3_after
theorem dX3_emptyOpenCells_0 : decode cX3_emptyOpenCells 0 = .ok (.aload_n 0, 1) := by decide +kernel
theorem dX3_emptyOpenCells_1 : decode cX3_emptyOpenCells 1 = .ok (.aload_n 0, 1) := by decide +kernel
theorem dX3_emptyOpenCells_2 : decode cX3_emptyOpenCells 2 = .ok (.iload_n 1, 1) := by decide +kernel
theorem dX3_emptyOpenCells_3 : decode cX3_emptyOpenCells 3 = .ok (.invokevirtual 56, 3) := by decide +kernel
theorem dX3_emptyOpenCells_6 : decode cX3_emptyOpenCells 6 = .ok (.invokevirtual 72, 3) := by decide +kernel
theorem dX3_emptyOpenCells_9 : decode cX3_emptyOpenCells 9 = .ok (.istore_n 3, 1) := by decide +kernel
theorem dX3_emptyOpenCells_10 : decode cX3_emptyOpenCells 10 = .ok (.iload_n 1, 1) := by decide +kernel
theorem dX3_emptyOpenCells_11 : decode cX3_emptyOpenCells 11 = .ok (.istore 4, 2) := by decide +kernel
theorem dX3_emptyOpenCells_13 : decode cX3_emptyOpenCells 13 = .ok (.iconst 0, 1) := by decide +kernel
theorem dX3_emptyOpenCells_14 : decode cX3_emptyOpenCells 14 = .ok (.istore 5, 2) := by decide +kernel
theorem dX3_emptyOpenCells_16 : decode cX3_emptyOpenCells 16 = .ok (.iload 5, 2) := by decide +kernel
theorem dX3_emptyOpenCells_18 : decode cX3_emptyOpenCells 18 = .ok (.iload_n 2, 1) := by decide +kernel
theorem dX3_emptyOpenCells_19 : decode cX3_emptyOpenCells 19 = .ok (.if_icmp .ge 50, 3) := by decide +kernel
theorem dX3_emptyOpenCells_22 : decode cX3_emptyOpenCells 22 = .ok (.aload_n 0, 1) := by decide +kernel
theorem dX3_emptyOpenCells_23 : decode cX3_emptyOpenCells 23 = .ok (.iload 4, 2) := by decide +kernel
theorem dX3_emptyOpenCells_25 : decode cX3_emptyOpenCells 25 = .ok (.invokevirtual 60, 3) := by decide +kernel
theorem dX3_emptyOpenCells_28 : decode cX3_emptyOpenCells 28 = .ok (.sipush 256, 3) := by decide +kernel
theorem dX3_emptyOpenCells_31 : decode cX3_emptyOpenCells 31 = .ok (.if_icmp .lt 13, 3) := by decide +kernel
theorem dX3_emptyOpenCells_34 : decode cX3_emptyOpenCells 34 = .ok (.aload_n 0, 1) := by decide +kernel
theorem dX3_emptyOpenCells_35 : decode cX3_emptyOpenCells 35 = .ok (.iload 4, 2) := by decide +kernel
theorem dX3_emptyOpenCells_37 : decode cX3_emptyOpenCells 37 = .ok (.invokevirtual 72, 3) := by decide +kernel
theorem dX3_emptyOpenCells_40 : decode cX3_emptyOpenCells 40 = .ok (.istore_n 3, 1) := by decide +kernel
theorem dX3_emptyOpenCells_41 : decode cX3_emptyOpenCells 41 = .ok (.goto 14, 3) := by decide +kernel
theorem dX3_emptyOpenCells_44 : decode cX3_emptyOpenCells 44 = .ok (.iload_n 3, 1) := by decide +kernel
theorem dX3_emptyOpenCells_45 : decode cX3_emptyOpenCells 45 = .ok (.ifCond .eq 10, 3) := by decide +kernel
theorem dX3_emptyOpenCells_48 : decode cX3_emptyOpenCells 48 = .ok (.aload_n 0, 1) := by decide +kernel
theorem dX3_emptyOpenCells_49 : decode cX3_emptyOpenCells 49 = .ok (.iload 4, 2) := by decide +kernel
theorem dX3_emptyOpenCells_51 : decode cX3_emptyOpenCells 51 = .ok (.iconst 0, 1) := by decide +kernel
theorem dX3_emptyOpenCells_52 : decode cX3_emptyOpenCells 52 = .ok (.invokevirtual 86, 3) := by decide +kernel
theorem dX3_emptyOpenCells_55 : decode cX3_emptyOpenCells 55 = .ok (.aload_n 0, 1) := by decide +kernel
theorem dX3_emptyOpenCells_56 : decode cX3_emptyOpenCells 56 = .ok (.iload 4, 2) := by decide +kernel
theorem dX3_emptyOpenCells_58 : decode cX3_emptyOpenCells 58 = .ok (.invokevirtual 66, 3) := by decide +kernel
theorem dX3_emptyOpenCells_61 : decode cX3_emptyOpenCells 61 = .ok (.istore 4, 2) := by decide +kernel
theorem dX3_emptyOpenCells_63 : decode cX3_emptyOpenCells 63 = .ok (.iinc 5 1, 3) := by decide +kernel
theorem dX3_emptyOpenCells_66 : decode cX3_emptyOpenCells 66 = .ok (.goto (-50), 3) := by decide +kernel
theorem dX3_emptyOpenCells_69 : decode cX3_emptyOpenCells 69 = .ok (.return_, 1) := by decide +kernel
set_option maxRecDepth 20000 in
theorem ggX3_eraseWhatIsNotProtected_X3_emptyOpenCells : GoodIn wsX3_eraseWhatIsNotProtected wsX3_emptyOpenCells := goodIn_r _ [7, 8, 9, 10, 6, 11, 12, 1, 13, 14, 15, 16, 17, 18, 19, 20, 21, 22, 23, 24, 25, 26, 27, 28, 29, 30, 31, 32, 33, 46, 47, 48, 49, 50, 51, 52, 53] (by decide +kernel) (by decide +kernel)
set_option maxRecDepth 20000 in
theorem gX3_eraseWhatIsNotProtected_X3_emptyOpenCells : GoodIn wsX3_eraseWhatIsNotProtected (wsV RX3 89 RX3 yX3_emptyOpenCells wsX3_emptyOpenCells) := goodIn_app (goodIn_of _ (by decide +kernel)) ggX3_eraseWhatIsNotProtected_X3_emptyOpenCells
set_option maxRecDepth 20000 in
theorem ggX3_eraseWhatIsNotProtected_X3_startsOpenField : GoodIn wsX3_eraseWhatIsNotProtected wsX3_startsOpenField := goodIn_r _ [37, 13, 14, 15, 6, 16, 17, 22, 23, 24, 25, 46, 47, 48, 49, 50, 51, 52, 53] (by decide +kernel) (by decide +kernel)
set_option maxRecDepth 20000 in
theorem gX3_eraseWhatIsNotProtected_X3_startsOpenField : GoodIn wsX3_eraseWhatIsNotProtected (wsV RX3 79 RX3 yX3_startsOpenField wsX3_startsOpenField) := goodIn_app (goodIn_of _ (by decide +kernel)) ggX3_eraseWhatIsNotProtected_X3_startsOpenField
set_option maxRecDepth 20000 in
theorem ggX3_eraseWhatIsNotProtected_X3_clearModified : GoodIn wsX3_eraseWhatIsNotProtected wsX3_clearModified := goodIn_r _ [41, 13, 14, 15, 6, 16, 17, 26, 27, 28, 29, 12, 46, 47, 48, 49, 50, 51, 52, 53] (by decide +kernel) (by decide +kernel)
set_option maxRecDepth 20000 in
theorem gX3_eraseWhatIsNotProtected_X3_clearModified : GoodIn wsX3_eraseWhatIsNotProtected (wsV RX3 82 RX3 yX3_clearModified wsX3_clearModified) := goodIn_app (goodIn_of _ (by decide +kernel)) ggX3_eraseWhatIsNotProtected_X3_clearModified
set_option maxRecDepth 20000 in
theorem ggX3_eraseWhatIsNotProtected_X3_firstToTypeIn : GoodIn wsX3_eraseWhatIsNotProtected wsX3_firstToTypeIn := goodIn_r _ [45, 1, 8, 9, 10, 6, 11, 12, 13, 14, 15, 16, 17, 18, 19, 20, 21, 22, 23, 24, 25, 30, 31, 32, 33, 46, 47, 48, 49, 50, 51, 52, 53] (by decide +kernel) (by decide +kernel)
set_option maxRecDepth 20000 in
theorem gX3_eraseWhatIsNotProtected_X3_firstToTypeIn : GoodIn wsX3_eraseWhatIsNotProtected (wsV RX3 92 RX3 yX3_firstToTypeIn wsX3_firstToTypeIn) := goodIn_app (goodIn_of _ (by decide +kernel)) ggX3_eraseWhatIsNotProtected_X3_firstToTypeIn
theorem dX3_eraseWhatIsNotProtected_0 : decode cX3_eraseWhatIsNotProtected 0 = .ok (.aload_n 0, 1) := by decide +kernel
theorem dX3_eraseWhatIsNotProtected_1 : decode cX3_eraseWhatIsNotProtected 1 = .ok (.iconst 0, 1) := by decide +kernel
theorem dX3_eraseWhatIsNotProtected_2 : decode cX3_eraseWhatIsNotProtected 2 = .ok (.aload_n 0, 1) := by decide +kernel
theorem dX3_eraseWhatIsNotProtected_3 : decode cX3_eraseWhatIsNotProtected 3 = .ok (.getfield 37, 3) := by decide +kernel
theorem dX3_eraseWhatIsNotProtected_6 : decode cX3_eraseWhatIsNotProtected 6 = .ok (.invokevirtual 89, 3) := by decide +kernel
theorem dX3_eraseWhatIsNotProtected_9 : decode cX3_eraseWhatIsNotProtected 9 = .ok (.iconst 0, 1) := by decide +kernel
theorem dX3_eraseWhatIsNotProtected_10 : decode cX3_eraseWhatIsNotProtected 10 = .ok (.istore_n 1, 1) := by decide +kernel
theorem dX3_eraseWhatIsNotProtected_11 : decode cX3_eraseWhatIsNotProtected 11 = .ok (.iload_n 1, 1) := by decide +kernel
theorem dX3_eraseWhatIsNotProtected_12 : decode cX3_eraseWhatIsNotProtected 12 = .ok (.aload_n 0, 1) := by decide +kernel
theorem dX3_eraseWhatIsNotProtected_13 : decode cX3_eraseWhatIsNotProtected 13 = .ok (.getfield 37, 3) := by decide +kernel
theorem dX3_eraseWhatIsNotProtected_16 : decode cX3_eraseWhatIsNotProtected 16 = .ok (.if_icmp .ge 22, 3) := by decide +kernel
theorem dX3_eraseWhatIsNotProtected_19 : decode cX3_eraseWhatIsNotProtected 19 = .ok (.aload_n 0, 1) := by decide +kernel
theorem dX3_eraseWhatIsNotProtected_20 : decode cX3_eraseWhatIsNotProtected 20 = .ok (.iload_n 1, 1) := by decide +kernel
theorem dX3_eraseWhatIsNotProtected_21 : decode cX3_eraseWhatIsNotProtected 21 = .ok (.invokevirtual 79, 3) := by decide +kernel
theorem dX3_eraseWhatIsNotProtected_24 : decode cX3_eraseWhatIsNotProtected 24 = .ok (.ifCond .eq 8, 3) := by decide +kernel
theorem dX3_eraseWhatIsNotProtected_27 : decode cX3_eraseWhatIsNotProtected 27 = .ok (.aload_n 0, 1) := by decide +kernel
theorem dX3_eraseWhatIsNotProtected_28 : decode cX3_eraseWhatIsNotProtected 28 = .ok (.iload_n 1, 1) := by decide +kernel
theorem dX3_eraseWhatIsNotProtected_29 : decode cX3_eraseWhatIsNotProtected 29 = .ok (.invokevirtual 82, 3) := by decide +kernel
theorem dX3_eraseWhatIsNotProtected_32 : decode cX3_eraseWhatIsNotProtected 32 = .ok (.iinc 1 1, 3) := by decide +kernel
theorem dX3_eraseWhatIsNotProtected_35 : decode cX3_eraseWhatIsNotProtected 35 = .ok (.goto (-24), 3) := by decide +kernel
theorem dX3_eraseWhatIsNotProtected_38 : decode cX3_eraseWhatIsNotProtected 38 = .ok (.aload_n 0, 1) := by decide +kernel
theorem dX3_eraseWhatIsNotProtected_39 : decode cX3_eraseWhatIsNotProtected 39 = .ok (.aload_n 0, 1) := by decide +kernel
theorem dX3_eraseWhatIsNotProtected_40 : decode cX3_eraseWhatIsNotProtected 40 = .ok (.iconst 0, 1) := by decide +kernel
theorem dX3_eraseWhatIsNotProtected_41 : decode cX3_eraseWhatIsNotProtected 41 = .ok (.invokevirtual 92, 3) := by decide +kernel
theorem dX3_eraseWhatIsNotProtected_44 : decode cX3_eraseWhatIsNotProtected 44 = .ok (.putfield 43, 3) := by decide +kernel
theorem dX3_eraseWhatIsNotProtected_47 : decode cX3_eraseWhatIsNotProtected 47 = .ok (.return_, 1) := by decide +kernel
set_option maxRecDepth 20000 in
theorem ggX3_makeRoom_X3_cellsToFirstEmpty : GoodIn wsX3_makeRoom wsX3_cellsToFirstEmpty := goodIn_r _ [5, 6, 7, 8, 4, 9, 10, 11, 12, 13, 14, 15, 16, 17, 18, 19, 20, 25, 26, 27, 28, 29, 30, 31, 32] (by decide +kernel) (by decide +kernel)
set_option maxRecDepth 20000 in
theorem gX3_makeRoom_X3_cellsToFirstEmpty : GoodIn wsX3_makeRoom (wsV RX3 95 RX3 yX3_cellsToFirstEmpty wsX3_cellsToFirstEmpty) := goodIn_app (goodIn_of _ (by decide +kernel)) ggX3_makeRoom_X3_cellsToFirstEmpty
set_option maxRecDepth 20000 in
theorem ggX3_makeRoom_X3_get : GoodIn wsX3_makeRoom wsX3_get := goodIn_r _ [15, 16, 25, 26, 27, 28, 29, 30, 31, 32] (by decide +kernel) (by decide +kernel)
set_option maxRecDepth 20000 in
theorem gX3_makeRoom_X3_get : GoodIn wsX3_makeRoom (wsV RX3 60 RX3 yX3_get wsX3_get) := goodIn_app (goodIn_of _ (by decide +kernel)) ggX3_makeRoom_X3_get
set_option maxRecDepth 20000 in
theorem ggX3_makeRoom_X3_put : GoodIn wsX3_makeRoom wsX3_put := goodIn_r _ [24, 16, 10, 25, 26, 27, 28, 29, 30, 31, 32] (by decide +kernel) (by decide +kernel)
set_option maxRecDepth 20000 in
theorem gX3_makeRoom_X3_put : GoodIn wsX3_makeRoom (wsV RX3 86 RX3 yX3_put wsX3_put) := goodIn_app (goodIn_of _ (by decide +kernel)) ggX3_makeRoom_X3_put
set_option maxRecDepth 20000 in
theorem ggX3_makeRoom_X3_after : GoodIn wsX3_makeRoom wsX3_after := goodIn_r _ [20, 11, 25, 26, 27, 28, 29, 30, 31, 32] (by decide +kernel) (by decide +kernel)
set_option maxRecDepth 20000 in
theorem gX3_makeRoom_X3_after : GoodIn wsX3_makeRoom (wsV RX3 66 RX3 yX3_after wsX3_after) := goodIn_app (goodIn_of _ (by decide +kernel)) ggX3_makeRoom_X3_after
theorem dX3_makeRoom_0 : decode cX3_makeRoom 0 = .ok (.aload_n 0, 1) := by decide +kernel
theorem dX3_makeRoom_1 : decode cX3_makeRoom 1 = .ok (.iload_n 1, 1) := by decide +kernel
theorem dX3_makeRoom_2 : decode cX3_makeRoom 2 = .ok (.invokevirtual 95, 3) := by decide +kernel
theorem dX3_makeRoom_5 : decode cX3_makeRoom 5 = .ok (.istore_n 2, 1) := by decide +kernel
theorem dX3_makeRoom_6 : decode cX3_makeRoom 6 = .ok (.iload_n 2, 1) := by decide +kernel
theorem dX3_makeRoom_7 : decode cX3_makeRoom 7 = .ok (.iconst (-1), 1) := by decide +kernel
theorem dX3_makeRoom_8 : decode cX3_makeRoom 8 = .ok (.if_icmp .ne 5, 3) := by decide +kernel
theorem dX3_makeRoom_11 : decode cX3_makeRoom 11 = .ok (.iconst 0, 1) := by decide +kernel
theorem dX3_makeRoom_12 : decode cX3_makeRoom 12 = .ok (.ireturn, 1) := by decide +kernel
theorem dX3_makeRoom_13 : decode cX3_makeRoom 13 = .ok (.iload_n 1, 1) := by decide +kernel
theorem dX3_makeRoom_14 : decode cX3_makeRoom 14 = .ok (.istore_n 3, 1) := by decide +kernel
theorem dX3_makeRoom_15 : decode cX3_makeRoom 15 = .ok (.iconst 0, 1) := by decide +kernel
theorem dX3_makeRoom_16 : decode cX3_makeRoom 16 = .ok (.istore 4, 2) := by decide +kernel
theorem dX3_makeRoom_18 : decode cX3_makeRoom 18 = .ok (.iconst 0, 1) := by decide +kernel
theorem dX3_makeRoom_19 : decode cX3_makeRoom 19 = .ok (.istore 5, 2) := by decide +kernel
theorem dX3_makeRoom_21 : decode cX3_makeRoom 21 = .ok (.iload 5, 2) := by decide +kernel
theorem dX3_makeRoom_23 : decode cX3_makeRoom 23 = .ok (.iload_n 2, 1) := by decide +kernel
theorem dX3_makeRoom_24 : decode cX3_makeRoom 24 = .ok (.if_icmp .gt 33, 3) := by decide +kernel
theorem dX3_makeRoom_27 : decode cX3_makeRoom 27 = .ok (.aload_n 0, 1) := by decide +kernel
theorem dX3_makeRoom_28 : decode cX3_makeRoom 28 = .ok (.iload_n 3, 1) := by decide +kernel
theorem dX3_makeRoom_29 : decode cX3_makeRoom 29 = .ok (.invokevirtual 60, 3) := by decide +kernel
theorem dX3_makeRoom_32 : decode cX3_makeRoom 32 = .ok (.istore 6, 2) := by decide +kernel
theorem dX3_makeRoom_34 : decode cX3_makeRoom 34 = .ok (.aload_n 0, 1) := by decide +kernel
theorem dX3_makeRoom_35 : decode cX3_makeRoom 35 = .ok (.iload_n 3, 1) := by decide +kernel
theorem dX3_makeRoom_36 : decode cX3_makeRoom 36 = .ok (.iload 4, 2) := by decide +kernel
theorem dX3_makeRoom_38 : decode cX3_makeRoom 38 = .ok (.invokevirtual 86, 3) := by decide +kernel
theorem dX3_makeRoom_41 : decode cX3_makeRoom 41 = .ok (.iload 6, 2) := by decide +kernel
theorem dX3_makeRoom_43 : decode cX3_makeRoom 43 = .ok (.istore 4, 2) := by decide +kernel
theorem dX3_makeRoom_45 : decode cX3_makeRoom 45 = .ok (.aload_n 0, 1) := by decide +kernel
theorem dX3_makeRoom_46 : decode cX3_makeRoom 46 = .ok (.iload_n 3, 1) := by decide +kernel
theorem dX3_makeRoom_47 : decode cX3_makeRoom 47 = .ok (.invokevirtual 66, 3) := by decide +kernel
theorem dX3_makeRoom_50 : decode cX3_makeRoom 50 = .ok (.istore_n 3, 1) := by decide +kernel
theorem dX3_makeRoom_51 : decode cX3_makeRoom 51 = .ok (.iinc 5 1, 3) := by decide +kernel
theorem dX3_makeRoom_54 : decode cX3_makeRoom 54 = .ok (.goto (-33), 3) := by decide +kernel
theorem dX3_makeRoom_57 : decode cX3_makeRoom 57 = .ok (.iconst 1, 1) := by decide +kernel
theorem dX3_makeRoom_58 : decode cX3_makeRoom 58 = .ok (.ireturn, 1) := by decide +kernel
set_option maxRecDepth 20000 in
theorem ggX3_cellsToFirstEmpty_X3_cellsToFieldEnd : GoodIn wsX3_cellsToFirstEmpty wsX3_cellsToFieldEnd := goodIn_r _ [5, 6, 7, 8, 9, 10, 4, 11, 12, 13, 14, 15, 16, 17, 18, 19, 20, 21, 22, 23, 24] (by decide +kernel) (by decide +kernel)
set_option maxRecDepth 20000 in
theorem gX3_cellsToFirstEmpty_X3_cellsToFieldEnd : GoodIn wsX3_cellsToFirstEmpty (wsV RX3 69 RX3 yX3_cellsToFieldEnd wsX3_cellsToFieldEnd) := goodIn_app (goodIn_of _ (by decide +kernel)) ggX3_cellsToFirstEmpty_X3_cellsToFieldEnd
set_option maxRecDepth 20000 in
theorem ggX3_cellsToFirstEmpty_X3_get : GoodIn wsX3_cellsToFirstEmpty wsX3_get := goodIn_r _ [11, 12, 17, 18, 19, 20, 21, 22, 23, 24] (by decide +kernel) (by decide +kernel)
set_option maxRecDepth 20000 in
theorem gX3_cellsToFirstEmpty_X3_get : GoodIn wsX3_cellsToFirstEmpty (wsV RX3 60 RX3 yX3_get wsX3_get) := goodIn_app (goodIn_of _ (by decide +kernel)) ggX3_cellsToFirstEmpty_X3_get
set_option maxRecDepth 20000 in
theorem ggX3_cellsToFirstEmpty_X3_after : GoodIn wsX3_cellsToFirstEmpty wsX3_after := goodIn_r _ [16, 7, 17, 18, 19, 20, 21, 22, 23, 24] (by decide +kernel) (by decide +kernel)
set_option maxRecDepth 20000 in
theorem gX3_cellsToFirstEmpty_X3_after : GoodIn wsX3_cellsToFirstEmpty (wsV RX3 66 RX3 yX3_after wsX3_after) := goodIn_app (goodIn_of _ (by decide +kernel)) ggX3_cellsToFirstEmpty_X3_after
theorem dX3_cellsToFirstEmpty_0 : decode cX3_cellsToFirstEmpty 0 = .ok (.aload_n 0, 1) := by decide +kernel
theorem dX3_cellsToFirstEmpty_1 : decode cX3_cellsToFirstEmpty 1 = .ok (.iload_n 1, 1) := by decide +kernel
theorem dX3_cellsToFirstEmpty_2 : decode cX3_cellsToFirstEmpty 2 = .ok (.invokevirtual 69, 3) := by decide +kernel
theorem dX3_cellsToFirstEmpty_5 : decode cX3_cellsToFirstEmpty 5 = .ok (.istore_n 2, 1) := by decide +kernel
theorem dX3_cellsToFirstEmpty_6 : decode cX3_cellsToFirstEmpty 6 = .ok (.iload_n 1, 1) := by decide +kernel
theorem dX3_cellsToFirstEmpty_7 : decode cX3_cellsToFirstEmpty 7 = .ok (.istore_n 3, 1) := by decide +kernel
theorem dX3_cellsToFirstEmpty_8 : decode cX3_cellsToFirstEmpty 8 = .ok (.iconst 0, 1) := by decide +kernel
theorem dX3_cellsToFirstEmpty_9 : decode cX3_cellsToFirstEmpty 9 = .ok (.istore 4, 2) := by decide +kernel
theorem dX3_cellsToFirstEmpty_11 : decode cX3_cellsToFirstEmpty 11 = .ok (.iload 4, 2) := by decide +kernel
theorem dX3_cellsToFirstEmpty_13 : decode cX3_cellsToFirstEmpty 13 = .ok (.iload_n 2, 1) := by decide +kernel
theorem dX3_cellsToFirstEmpty_14 : decode cX3_cellsToFirstEmpty 14 = .ok (.if_icmp .ge 26, 3) := by decide +kernel
theorem dX3_cellsToFirstEmpty_17 : decode cX3_cellsToFirstEmpty 17 = .ok (.aload_n 0, 1) := by decide +kernel
theorem dX3_cellsToFirstEmpty_18 : decode cX3_cellsToFirstEmpty 18 = .ok (.iload_n 3, 1) := by decide +kernel
theorem dX3_cellsToFirstEmpty_19 : decode cX3_cellsToFirstEmpty 19 = .ok (.invokevirtual 60, 3) := by decide +kernel
theorem dX3_cellsToFirstEmpty_22 : decode cX3_cellsToFirstEmpty 22 = .ok (.ifCond .ne 6, 3) := by decide +kernel
theorem dX3_cellsToFirstEmpty_25 : decode cX3_cellsToFirstEmpty 25 = .ok (.iload 4, 2) := by decide +kernel
theorem dX3_cellsToFirstEmpty_27 : decode cX3_cellsToFirstEmpty 27 = .ok (.ireturn, 1) := by decide +kernel
theorem dX3_cellsToFirstEmpty_28 : decode cX3_cellsToFirstEmpty 28 = .ok (.aload_n 0, 1) := by decide +kernel
theorem dX3_cellsToFirstEmpty_29 : decode cX3_cellsToFirstEmpty 29 = .ok (.iload_n 3, 1) := by decide +kernel
theorem dX3_cellsToFirstEmpty_30 : decode cX3_cellsToFirstEmpty 30 = .ok (.invokevirtual 66, 3) := by decide +kernel
theorem dX3_cellsToFirstEmpty_33 : decode cX3_cellsToFirstEmpty 33 = .ok (.istore_n 3, 1) := by decide +kernel
theorem dX3_cellsToFirstEmpty_34 : decode cX3_cellsToFirstEmpty 34 = .ok (.iinc 4 1, 3) := by decide +kernel
theorem dX3_cellsToFirstEmpty_37 : decode cX3_cellsToFirstEmpty 37 = .ok (.goto (-26), 3) := by decide +kernel
theorem dX3_cellsToFirstEmpty_40 : decode cX3_cellsToFirstEmpty 40 = .ok (.iconst (-1), 1) := by decide +kernel
theorem dX3_cellsToFirstEmpty_41 : decode cX3_cellsToFirstEmpty 41 = .ok (.ireturn, 1) := by decide +kernel
set_option maxRecDepth 20000 in
theorem ggX3_remove_X3_startOfRow : GoodIn wsX3_remove wsX3_startOfRow := goodIn_r _ [10, 1, 30, 31, 32, 33, 34, 35, 36, 37] (by decide +kernel) (by decide +kernel)
set_option maxRecDepth 20000 in
theorem gX3_remove_X3_startOfRow : GoodIn wsX3_remove (wsV RX3 98 RX3 yX3_startOfRow wsX3_startOfRow) := goodIn_app (goodIn_of _ (by decide +kernel)) ggX3_remove_X3_startOfRow
set_option maxRecDepth 20000 in
theorem ggX3_remove_X3_cellsToFieldEnd : GoodIn wsX3_remove wsX3_cellsToFieldEnd := goodIn_r _ [14, 15, 16, 17, 18, 19, 9, 20, 21, 22, 23, 24, 25, 30, 31, 32, 33, 34, 35, 36, 37] (by decide +kernel) (by decide +kernel)
set_option maxRecDepth 20000 in
theorem gX3_remove_X3_cellsToFieldEnd : GoodIn wsX3_remove (wsV RX3 69 RX3 yX3_cellsToFieldEnd wsX3_cellsToFieldEnd) := goodIn_app (goodIn_of _ (by decide +kernel)) ggX3_remove_X3_cellsToFieldEnd
set_option maxRecDepth 20000 in
theorem ggX3_remove_X3_get : GoodIn wsX3_remove wsX3_get := goodIn_r _ [20, 21, 30, 31, 32, 33, 34, 35, 36, 37] (by decide +kernel) (by decide +kernel)
set_option maxRecDepth 20000 in
theorem gX3_remove_X3_get : GoodIn wsX3_remove (wsV RX3 60 RX3 yX3_get wsX3_get) := goodIn_app (goodIn_of _ (by decide +kernel)) ggX3_remove_X3_get
set_option maxRecDepth 20000 in
theorem ggX3_remove_X3_put : GoodIn wsX3_remove wsX3_put := goodIn_r _ [29, 21, 15, 30, 31, 32, 33, 34, 35, 36, 37] (by decide +kernel) (by decide +kernel)
set_option maxRecDepth 20000 in
theorem gX3_remove_X3_put : GoodIn wsX3_remove (wsV RX3 86 RX3 yX3_put wsX3_put) := goodIn_app (goodIn_of _ (by decide +kernel)) ggX3_remove_X3_put
theorem dX3_remove_0 : decode cX3_remove 0 = .ok (.aload_n 0, 1) := by decide +kernel
theorem dX3_remove_1 : decode cX3_remove 1 = .ok (.iload_n 1, 1) := by decide +kernel
theorem dX3_remove_2 : decode cX3_remove 2 = .ok (.invokevirtual 98, 3) := by decide +kernel
theorem dX3_remove_5 : decode cX3_remove 5 = .ok (.aload_n 0, 1) := by decide +kernel
theorem dX3_remove_6 : decode cX3_remove 6 = .ok (.getfield 34, 3) := by decide +kernel
theorem dX3_remove_9 : decode cX3_remove 9 = .ok (.iadd, 1) := by decide +kernel
theorem dX3_remove_10 : decode cX3_remove 10 = .ok (.iconst 1, 1) := by decide +kernel
theorem dX3_remove_11 : decode cX3_remove 11 = .ok (.isub, 1) := by decide +kernel
theorem dX3_remove_12 : decode cX3_remove 12 = .ok (.istore_n 2, 1) := by decide +kernel
theorem dX3_remove_13 : decode cX3_remove 13 = .ok (.aload_n 0, 1) := by decide +kernel
theorem dX3_remove_14 : decode cX3_remove 14 = .ok (.iload_n 1, 1) := by decide +kernel
theorem dX3_remove_15 : decode cX3_remove 15 = .ok (.invokevirtual 69, 3) := by decide +kernel
theorem dX3_remove_18 : decode cX3_remove 18 = .ok (.iconst 1, 1) := by decide +kernel
theorem dX3_remove_19 : decode cX3_remove 19 = .ok (.isub, 1) := by decide +kernel
theorem dX3_remove_20 : decode cX3_remove 20 = .ok (.iload_n 2, 1) := by decide +kernel
theorem dX3_remove_21 : decode cX3_remove 21 = .ok (.iload_n 1, 1) := by decide +kernel
theorem dX3_remove_22 : decode cX3_remove 22 = .ok (.isub, 1) := by decide +kernel
theorem dX3_remove_23 : decode cX3_remove 23 = .ok (.invokestatic 11, 3) := by decide +kernel
theorem dX3_remove_26 : decode cX3_remove 26 = .ok (.istore_n 3, 1) := by decide +kernel
theorem dX3_remove_27 : decode cX3_remove 27 = .ok (.iload_n 1, 1) := by decide +kernel
theorem dX3_remove_28 : decode cX3_remove 28 = .ok (.istore 4, 2) := by decide +kernel
theorem dX3_remove_30 : decode cX3_remove 30 = .ok (.iconst 0, 1) := by decide +kernel
theorem dX3_remove_31 : decode cX3_remove 31 = .ok (.istore 5, 2) := by decide +kernel
theorem dX3_remove_33 : decode cX3_remove 33 = .ok (.iload 5, 2) := by decide +kernel
theorem dX3_remove_35 : decode cX3_remove 35 = .ok (.iload_n 3, 1) := by decide +kernel
theorem dX3_remove_36 : decode cX3_remove 36 = .ok (.if_icmp .ge 26, 3) := by decide +kernel
theorem dX3_remove_39 : decode cX3_remove 39 = .ok (.aload_n 0, 1) := by decide +kernel
theorem dX3_remove_40 : decode cX3_remove 40 = .ok (.iload 4, 2) := by decide +kernel
theorem dX3_remove_42 : decode cX3_remove 42 = .ok (.aload_n 0, 1) := by decide +kernel
theorem dX3_remove_43 : decode cX3_remove 43 = .ok (.iload 4, 2) := by decide +kernel
theorem dX3_remove_45 : decode cX3_remove 45 = .ok (.iconst 1, 1) := by decide +kernel
theorem dX3_remove_46 : decode cX3_remove 46 = .ok (.iadd, 1) := by decide +kernel
theorem dX3_remove_47 : decode cX3_remove 47 = .ok (.invokevirtual 60, 3) := by decide +kernel
theorem dX3_remove_50 : decode cX3_remove 50 = .ok (.invokevirtual 86, 3) := by decide +kernel
theorem dX3_remove_53 : decode cX3_remove 53 = .ok (.iinc 4 1, 3) := by decide +kernel
theorem dX3_remove_56 : decode cX3_remove 56 = .ok (.iinc 5 1, 3) := by decide +kernel
theorem dX3_remove_59 : decode cX3_remove 59 = .ok (.goto (-26), 3) := by decide +kernel
theorem dX3_remove_62 : decode cX3_remove 62 = .ok (.aload_n 0, 1) := by decide +kernel
theorem dX3_remove_63 : decode cX3_remove 63 = .ok (.iload 4, 2) := by decide +kernel
theorem dX3_remove_65 : decode cX3_remove 65 = .ok (.iconst 0, 1) := by decide +kernel
theorem dX3_remove_66 : decode cX3_remove 66 = .ok (.invokevirtual 86, 3) := by decide +kernel
theorem dX3_remove_69 : decode cX3_remove 69 = .ok (.return_, 1) := by decide +kernel
