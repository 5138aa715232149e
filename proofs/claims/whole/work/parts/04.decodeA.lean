set_option maxRecDepth 20000 in
theorem ggX0_init_J7_fill_53178 : GoodIn wsX0_init wsJ7_fill_53178 := goodIn_r _ [17] (by decide +kernel) (by decide +kernel)
set_option maxRecDepth 20000 in
theorem gX0_init_J7_fill_53178 : GoodIn wsX0_init (va_wsS RX0 37 yJ7_fill_53178 wsJ7_fill_53178) := goodIn_app (goodIn_of _ (by decide +kernel)) ggX0_init_J7_fill_53178
theorem dX0_init_0 : decode cX0_init 0 = .ok (.aload_n 0, 1) := by decide +kernel
theorem dX0_init_1 : decode cX0_init 1 = .ok (.invokespecial 3, 3) := by decide +kernel
theorem dX0_init_4 : decode cX0_init 4 = .ok (.aload_n 0, 1) := by decide +kernel
theorem dX0_init_5 : decode cX0_init 5 = .ok (.bipush 10, 2) := by decide +kernel
theorem dX0_init_7 : decode cX0_init 7 = .ok (.newarray .int, 2) := by decide +kernel
theorem dX0_init_9 : decode cX0_init 9 = .ok (.putfield 9, 3) := by decide +kernel
theorem dX0_init_12 : decode cX0_init 12 = .ok (.aload_n 0, 1) := by decide +kernel
theorem dX0_init_13 : decode cX0_init 13 = .ok (.bipush 10, 2) := by decide +kernel
theorem dX0_init_15 : decode cX0_init 15 = .ok (.newarray .int, 2) := by decide +kernel
theorem dX0_init_17 : decode cX0_init 17 = .ok (.putfield 15, 3) := by decide +kernel
theorem dX0_init_20 : decode cX0_init 20 = .ok (.aload_n 0, 1) := by decide +kernel
theorem dX0_init_21 : decode cX0_init 21 = .ok (.bipush 10, 2) := by decide +kernel
theorem dX0_init_23 : decode cX0_init 23 = .ok (.newarray .boolean, 2) := by decide +kernel
theorem dX0_init_25 : decode cX0_init 25 = .ok (.putfield 18, 3) := by decide +kernel
theorem dX0_init_28 : decode cX0_init 28 = .ok (.aload_n 0, 1) := by decide +kernel
theorem dX0_init_29 : decode cX0_init 29 = .ok (.bipush 10, 2) := by decide +kernel
theorem dX0_init_31 : decode cX0_init 31 = .ok (.bipush 12, 2) := by decide +kernel
theorem dX0_init_33 : decode cX0_init 33 = .ok (.multianewarray 22 2, 4) := by decide +kernel
theorem dX0_init_37 : decode cX0_init 37 = .ok (.putfield 24, 3) := by decide +kernel
theorem dX0_init_40 : decode cX0_init 40 = .ok (.aload_n 0, 1) := by decide +kernel
theorem dX0_init_41 : decode cX0_init 41 = .ok (.bipush 12, 2) := by decide +kernel
theorem dX0_init_43 : decode cX0_init 43 = .ok (.newarray .int, 2) := by decide +kernel
theorem dX0_init_45 : decode cX0_init 45 = .ok (.putfield 27, 3) := by decide +kernel
theorem dX0_init_48 : decode cX0_init 48 = .ok (.aload_n 0, 1) := by decide +kernel
theorem dX0_init_49 : decode cX0_init 49 = .ok (.bipush 12, 2) := by decide +kernel
theorem dX0_init_51 : decode cX0_init 51 = .ok (.newarray .int, 2) := by decide +kernel
theorem dX0_init_53 : decode cX0_init 53 = .ok (.putfield 30, 3) := by decide +kernel
theorem dX0_init_56 : decode cX0_init 56 = .ok (.aload_n 0, 1) := by decide +kernel
theorem dX0_init_57 : decode cX0_init 57 = .ok (.iconst (-1), 1) := by decide +kernel
theorem dX0_init_58 : decode cX0_init 58 = .ok (.putfield 33, 3) := by decide +kernel
theorem dX0_init_61 : decode cX0_init 61 = .ok (.iconst 0, 1) := by decide +kernel
theorem dX0_init_62 : decode cX0_init 62 = .ok (.istore_n 1, 1) := by decide +kernel
theorem dX0_init_63 : decode cX0_init 63 = .ok (.iload_n 1, 1) := by decide +kernel
theorem dX0_init_64 : decode cX0_init 64 = .ok (.bipush 10, 2) := by decide +kernel
theorem dX0_init_66 : decode cX0_init 66 = .ok (.if_icmp .ge 19, 3) := by decide +kernel
theorem dX0_init_69 : decode cX0_init 69 = .ok (.aload_n 0, 1) := by decide +kernel
theorem dX0_init_70 : decode cX0_init 70 = .ok (.getfield 24, 3) := by decide +kernel
theorem dX0_init_73 : decode cX0_init 73 = .ok (.iload_n 1, 1) := by decide +kernel
theorem dX0_init_74 : decode cX0_init 74 = .ok (.aaload, 1) := by decide +kernel
theorem dX0_init_75 : decode cX0_init 75 = .ok (.iconst (-1), 1) := by decide +kernel
theorem dX0_init_76 : decode cX0_init 76 = .ok (.invokestatic 37, 3) := by decide +kernel
theorem dX0_init_79 : decode cX0_init 79 = .ok (.iinc 1 1, 3) := by decide +kernel
theorem dX0_init_82 : decode cX0_init 82 = .ok (.goto (-19), 3) := by decide +kernel
theorem dX0_init_85 : decode cX0_init 85 = .ok (.return_, 1) := by decide +kernel
theorem dX0_size_0 : decode cX0_size 0 = .ok (.aload_n 0, 1) := by decide +kernel
theorem dX0_size_1 : decode cX0_size 1 = .ok (.getfield 43, 3) := by decide +kernel
theorem dX0_size_4 : decode cX0_size 4 = .ok (.ireturn, 1) := by decide +kernel
theorem dX0_isFull_0 : decode cX0_isFull 0 = .ok (.aload_n 0, 1) := by decide +kernel
theorem dX0_isFull_1 : decode cX0_isFull 1 = .ok (.getfield 43, 3) := by decide +kernel
theorem dX0_isFull_4 : decode cX0_isFull 4 = .ok (.bipush 10, 2) := by decide +kernel
theorem dX0_isFull_6 : decode cX0_isFull 6 = .ok (.if_icmp .lt 7, 3) := by decide +kernel
theorem dX0_isFull_9 : decode cX0_isFull 9 = .ok (.iconst 1, 1) := by decide +kernel
theorem dX0_isFull_10 : decode cX0_isFull 10 = .ok (.goto 4, 3) := by decide +kernel
theorem dX0_isFull_13 : decode cX0_isFull 13 = .ok (.iconst 0, 1) := by decide +kernel
theorem dX0_isFull_14 : decode cX0_isFull 14 = .ok (.ireturn, 1) := by decide +kernel
theorem dX0_has_0 : decode cX0_has 0 = .ok (.iload_n 1, 1) := by decide +kernel
theorem dX0_has_1 : decode cX0_has 1 = .ok (.ifCond .lt 15, 3) := by decide +kernel
theorem dX0_has_4 : decode cX0_has 4 = .ok (.iload_n 1, 1) := by decide +kernel
theorem dX0_has_5 : decode cX0_has 5 = .ok (.aload_n 0, 1) := by decide +kernel
theorem dX0_has_6 : decode cX0_has 6 = .ok (.getfield 43, 3) := by decide +kernel
theorem dX0_has_9 : decode cX0_has 9 = .ok (.if_icmp .ge 7, 3) := by decide +kernel
theorem dX0_has_12 : decode cX0_has 12 = .ok (.iconst 1, 1) := by decide +kernel
theorem dX0_has_13 : decode cX0_has 13 = .ok (.goto 4, 3) := by decide +kernel
theorem dX0_has_16 : decode cX0_has 16 = .ok (.iconst 0, 1) := by decide +kernel
theorem dX0_has_17 : decode cX0_has 17 = .ok (.ireturn, 1) := by decide +kernel
theorem dX0_add_0 : decode cX0_add 0 = .ok (.aload_n 0, 1) := by decide +kernel
theorem dX0_add_1 : decode cX0_add 1 = .ok (.getfield 43, 3) := by decide +kernel
theorem dX0_add_4 : decode cX0_add 4 = .ok (.istore 4, 2) := by decide +kernel
theorem dX0_add_6 : decode cX0_add 6 = .ok (.iload 4, 2) := by decide +kernel
theorem dX0_add_8 : decode cX0_add 8 = .ok (.ifCond .lt 10, 3) := by decide +kernel
theorem dX0_add_11 : decode cX0_add 11 = .ok (.iload 4, 2) := by decide +kernel
theorem dX0_add_13 : decode cX0_add 13 = .ok (.bipush 10, 2) := by decide +kernel
theorem dX0_add_15 : decode cX0_add 15 = .ok (.if_icmp .lt 5, 3) := by decide +kernel
theorem dX0_add_18 : decode cX0_add 18 = .ok (.iconst (-1), 1) := by decide +kernel
theorem dX0_add_19 : decode cX0_add 19 = .ok (.ireturn, 1) := by decide +kernel
theorem dX0_add_20 : decode cX0_add 20 = .ok (.aload_n 0, 1) := by decide +kernel
theorem dX0_add_21 : decode cX0_add 21 = .ok (.dup, 1) := by decide +kernel
theorem dX0_add_22 : decode cX0_add 22 = .ok (.getfield 43, 3) := by decide +kernel
theorem dX0_add_25 : decode cX0_add 25 = .ok (.iconst 1, 1) := by decide +kernel
theorem dX0_add_26 : decode cX0_add 26 = .ok (.iadd, 1) := by decide +kernel
theorem dX0_add_27 : decode cX0_add 27 = .ok (.putfield 43, 3) := by decide +kernel
theorem dX0_add_30 : decode cX0_add 30 = .ok (.aload_n 0, 1) := by decide +kernel
theorem dX0_add_31 : decode cX0_add 31 = .ok (.getfield 9, 3) := by decide +kernel
theorem dX0_add_34 : decode cX0_add 34 = .ok (.iload 4, 2) := by decide +kernel
theorem dX0_add_36 : decode cX0_add 36 = .ok (.iload_n 1, 1) := by decide +kernel
theorem dX0_add_37 : decode cX0_add 37 = .ok (.iastore, 1) := by decide +kernel
theorem dX0_add_38 : decode cX0_add 38 = .ok (.aload_n 0, 1) := by decide +kernel
theorem dX0_add_39 : decode cX0_add 39 = .ok (.getfield 15, 3) := by decide +kernel
theorem dX0_add_42 : decode cX0_add 42 = .ok (.iload 4, 2) := by decide +kernel
theorem dX0_add_44 : decode cX0_add 44 = .ok (.iload_n 2, 1) := by decide +kernel
theorem dX0_add_45 : decode cX0_add 45 = .ok (.iastore, 1) := by decide +kernel
theorem dX0_add_46 : decode cX0_add 46 = .ok (.aload_n 0, 1) := by decide +kernel
theorem dX0_add_47 : decode cX0_add 47 = .ok (.getfield 18, 3) := by decide +kernel
theorem dX0_add_50 : decode cX0_add 50 = .ok (.iload 4, 2) := by decide +kernel
theorem dX0_add_52 : decode cX0_add 52 = .ok (.iload_n 3, 1) := by decide +kernel
theorem dX0_add_53 : decode cX0_add 53 = .ok (.bastore, 1) := by decide +kernel
theorem dX0_add_54 : decode cX0_add 54 = .ok (.iload 4, 2) := by decide +kernel
theorem dX0_add_56 : decode cX0_add 56 = .ok (.ireturn, 1) := by decide +kernel
set_option maxRecDepth 20000 in
theorem ggX0_told_X0_has : GoodIn wsX0_told wsX0_has := goodIn_r _ [6, 7, 11, 12, 13, 14, 15, 16, 17, 18, 19] (by decide +kernel) (by decide +kernel)
set_option maxRecDepth 20000 in
theorem gX0_told_X0_has : GoodIn wsX0_told (wsV RX0 46 RX0 yX0_has wsX0_has) := goodIn_app (goodIn_of _ (by decide +kernel)) ggX0_told_X0_has
set_option maxRecDepth 20000 in
theorem ggX0_told_X3_isChannel : GoodIn wsX0_told wsX3_isChannel := goodIn_r _ [10] (by decide +kernel) (by decide +kernel)
set_option maxRecDepth 20000 in
theorem gX0_told_X3_isChannel_n50 : GoodIn wsX0_told (wsX3_isChannel) := ggX0_told_X3_isChannel
theorem dX0_told_0 : decode cX0_told 0 = .ok (.aload_n 0, 1) := by decide +kernel
theorem dX0_told_1 : decode cX0_told 1 = .ok (.iload_n 1, 1) := by decide +kernel
theorem dX0_told_2 : decode cX0_told 2 = .ok (.invokevirtual 46, 3) := by decide +kernel
theorem dX0_told_5 : decode cX0_told 5 = .ok (.ifCond .eq 21, 3) := by decide +kernel
theorem dX0_told_8 : decode cX0_told 8 = .ok (.iload_n 2, 1) := by decide +kernel
theorem dX0_told_9 : decode cX0_told 9 = .ok (.invokestatic 50, 3) := by decide +kernel
theorem dX0_told_12 : decode cX0_told 12 = .ok (.ifCond .eq 14, 3) := by decide +kernel
theorem dX0_told_15 : decode cX0_told 15 = .ok (.aload_n 0, 1) := by decide +kernel
theorem dX0_told_16 : decode cX0_told 16 = .ok (.getfield 24, 3) := by decide +kernel
theorem dX0_told_19 : decode cX0_told 19 = .ok (.iload_n 1, 1) := by decide +kernel
theorem dX0_told_20 : decode cX0_told 20 = .ok (.aaload, 1) := by decide +kernel
theorem dX0_told_21 : decode cX0_told 21 = .ok (.iload_n 2, 1) := by decide +kernel
theorem dX0_told_22 : decode cX0_told 22 = .ok (.iaload, 1) := by decide +kernel
theorem dX0_told_23 : decode cX0_told 23 = .ok (.goto 4, 3) := by decide +kernel
theorem dX0_told_26 : decode cX0_told 26 = .ok (.iconst (-1), 1) := by decide +kernel
theorem dX0_told_27 : decode cX0_told 27 = .ok (.ireturn, 1) := by decide +kernel
set_option maxRecDepth 20000 in
theorem ggX0_toldOrZero_X0_told : GoodIn wsX0_toldOrZero wsX0_told := goodIn_r _ [9, 10, 11, 12, 13, 8, 14, 15, 16, 17, 18, 19, 20, 21, 22, 23, 24, 25, 26, 27] (by decide +kernel) (by decide +kernel)
set_option maxRecDepth 20000 in
theorem gX0_toldOrZero_X0_told : GoodIn wsX0_toldOrZero (wsV RX0 53 RX0 yX0_told wsX0_told) := goodIn_app (goodIn_of _ (by decide +kernel)) ggX0_toldOrZero_X0_told
theorem dX0_toldOrZero_0 : decode cX0_toldOrZero 0 = .ok (.iconst 0, 1) := by decide +kernel
theorem dX0_toldOrZero_1 : decode cX0_toldOrZero 1 = .ok (.aload_n 0, 1) := by decide +kernel
theorem dX0_toldOrZero_2 : decode cX0_toldOrZero 2 = .ok (.iload_n 1, 1) := by decide +kernel
theorem dX0_toldOrZero_3 : decode cX0_toldOrZero 3 = .ok (.iload_n 2, 1) := by decide +kernel
theorem dX0_toldOrZero_4 : decode cX0_toldOrZero 4 = .ok (.invokevirtual 53, 3) := by decide +kernel
theorem dX0_toldOrZero_7 : decode cX0_toldOrZero 7 = .ok (.invokestatic 57, 3) := by decide +kernel
theorem dX0_toldOrZero_10 : decode cX0_toldOrZero 10 = .ok (.ireturn, 1) := by decide +kernel
set_option maxRecDepth 20000 in
theorem ggX0_tell_X0_has : GoodIn wsX0_tell wsX0_has := goodIn_r _ [6, 7, 11, 12, 13, 14, 15, 16, 17, 18, 19] (by decide +kernel) (by decide +kernel)
set_option maxRecDepth 20000 in
theorem gX0_tell_X0_has : GoodIn wsX0_tell (wsV RX0 46 RX0 yX0_has wsX0_has) := goodIn_app (goodIn_of _ (by decide +kernel)) ggX0_tell_X0_has
set_option maxRecDepth 20000 in
theorem ggX0_tell_X3_isChannel : GoodIn wsX0_tell wsX3_isChannel := goodIn_r _ [10] (by decide +kernel) (by decide +kernel)
set_option maxRecDepth 20000 in
theorem gX0_tell_X3_isChannel_n50 : GoodIn wsX0_tell (wsX3_isChannel) := ggX0_tell_X3_isChannel
theorem dX0_tell_0 : decode cX0_tell 0 = .ok (.aload_n 0, 1) := by decide +kernel
theorem dX0_tell_1 : decode cX0_tell 1 = .ok (.iload_n 1, 1) := by decide +kernel
theorem dX0_tell_2 : decode cX0_tell 2 = .ok (.invokevirtual 46, 3) := by decide +kernel
theorem dX0_tell_5 : decode cX0_tell 5 = .ok (.ifCond .eq 19, 3) := by decide +kernel
theorem dX0_tell_8 : decode cX0_tell 8 = .ok (.iload_n 2, 1) := by decide +kernel
theorem dX0_tell_9 : decode cX0_tell 9 = .ok (.invokestatic 50, 3) := by decide +kernel
theorem dX0_tell_12 : decode cX0_tell 12 = .ok (.ifCond .eq 12, 3) := by decide +kernel
theorem dX0_tell_15 : decode cX0_tell 15 = .ok (.aload_n 0, 1) := by decide +kernel
theorem dX0_tell_16 : decode cX0_tell 16 = .ok (.getfield 24, 3) := by decide +kernel
theorem dX0_tell_19 : decode cX0_tell 19 = .ok (.iload_n 1, 1) := by decide +kernel
theorem dX0_tell_20 : decode cX0_tell 20 = .ok (.aaload, 1) := by decide +kernel
theorem dX0_tell_21 : decode cX0_tell 21 = .ok (.iload_n 2, 1) := by decide +kernel
theorem dX0_tell_22 : decode cX0_tell 22 = .ok (.iload_n 3, 1) := by decide +kernel
theorem dX0_tell_23 : decode cX0_tell 23 = .ok (.iastore, 1) := by decide +kernel
theorem dX0_tell_24 : decode cX0_tell 24 = .ok (.return_, 1) := by decide +kernel
set_option maxRecDepth 20000 in
theorem ggX0_countTold_X0_told : GoodIn wsX0_countTold wsX0_told := goodIn_r _ [5, 6, 7, 8, 9, 4, 10, 11, 12, 13, 14, 15, 16, 17, 18, 19, 20, 21, 22, 23] (by decide +kernel) (by decide +kernel)
set_option maxRecDepth 20000 in
theorem gX0_countTold_X0_told : GoodIn wsX0_countTold (wsV RX0 53 RX0 yX0_told wsX0_told) := goodIn_app (goodIn_of _ (by decide +kernel)) ggX0_countTold_X0_told
theorem dX0_countTold_0 : decode cX0_countTold 0 = .ok (.iconst 0, 1) := by decide +kernel
theorem dX0_countTold_1 : decode cX0_countTold 1 = .ok (.istore_n 2, 1) := by decide +kernel
theorem dX0_countTold_2 : decode cX0_countTold 2 = .ok (.iconst 0, 1) := by decide +kernel
theorem dX0_countTold_3 : decode cX0_countTold 3 = .ok (.istore_n 3, 1) := by decide +kernel
theorem dX0_countTold_4 : decode cX0_countTold 4 = .ok (.iload_n 3, 1) := by decide +kernel
theorem dX0_countTold_5 : decode cX0_countTold 5 = .ok (.bipush 12, 2) := by decide +kernel
theorem dX0_countTold_7 : decode cX0_countTold 7 = .ok (.if_icmp .ge 22, 3) := by decide +kernel
theorem dX0_countTold_10 : decode cX0_countTold 10 = .ok (.aload_n 0, 1) := by decide +kernel
theorem dX0_countTold_11 : decode cX0_countTold 11 = .ok (.iload_n 1, 1) := by decide +kernel
theorem dX0_countTold_12 : decode cX0_countTold 12 = .ok (.iload_n 3, 1) := by decide +kernel
theorem dX0_countTold_13 : decode cX0_countTold 13 = .ok (.invokevirtual 53, 3) := by decide +kernel
theorem dX0_countTold_16 : decode cX0_countTold 16 = .ok (.iconst (-1), 1) := by decide +kernel
theorem dX0_countTold_17 : decode cX0_countTold 17 = .ok (.if_icmp .eq 6, 3) := by decide +kernel
theorem dX0_countTold_20 : decode cX0_countTold 20 = .ok (.iinc 2 1, 3) := by decide +kernel
theorem dX0_countTold_23 : decode cX0_countTold 23 = .ok (.iinc 3 1, 3) := by decide +kernel
theorem dX0_countTold_26 : decode cX0_countTold 26 = .ok (.goto (-22), 3) := by decide +kernel
theorem dX0_countTold_29 : decode cX0_countTold 29 = .ok (.iload_n 2, 1) := by decide +kernel
theorem dX0_countTold_30 : decode cX0_countTold 30 = .ok (.ireturn, 1) := by decide +kernel
theorem dX0_begunLast_0 : decode cX0_begunLast 0 = .ok (.aload_n 0, 1) := by decide +kernel
theorem dX0_begunLast_1 : decode cX0_begunLast 1 = .ok (.getfield 33, 3) := by decide +kernel
theorem dX0_begunLast_4 : decode cX0_begunLast 4 = .ok (.ireturn, 1) := by decide +kernel
set_option maxRecDepth 20000 in
theorem ggX0_begin_X0_levelNow : GoodIn wsX0_begin wsX0_levelNow := goodIn_r _ [9, 3, 10, 4, 11, 1, 2, 12, 13, 14, 8, 15, 16, 17, 18, 19, 25, 26, 27, 28, 29, 30, 31, 32, 33] (by decide +kernel) (by decide +kernel)
set_option maxRecDepth 20000 in
theorem gX0_begin_X0_levelNow : GoodIn wsX0_begin (wsV RX0 62 RX0 yX0_levelNow wsX0_levelNow) := goodIn_app (goodIn_of _ (by decide +kernel)) ggX0_begin_X0_levelNow
set_option maxRecDepth 20000 in
theorem ggX0_begin_X0_told : GoodIn wsX0_begin wsX0_told := goodIn_r _ [23, 24, 12, 13, 14, 8, 15, 16, 17, 18, 19, 25, 26, 27, 28, 29, 30, 31, 32, 33] (by decide +kernel) (by decide +kernel)
set_option maxRecDepth 20000 in
theorem gX0_begin_X0_told : GoodIn wsX0_begin (wsV RX0 53 RX0 yX0_told wsX0_told) := goodIn_app (goodIn_of _ (by decide +kernel)) ggX0_begin_X0_told
theorem dX0_begin_0 : decode cX0_begin 0 = .ok (.iconst 0, 1) := by decide +kernel
theorem dX0_begin_1 : decode cX0_begin 1 = .ok (.istore_n 2, 1) := by decide +kernel
theorem dX0_begin_2 : decode cX0_begin 2 = .ok (.iload_n 2, 1) := by decide +kernel
theorem dX0_begin_3 : decode cX0_begin 3 = .ok (.bipush 12, 2) := by decide +kernel
theorem dX0_begin_5 : decode cX0_begin 5 = .ok (.if_icmp .ge 48, 3) := by decide +kernel
theorem dX0_begin_8 : decode cX0_begin 8 = .ok (.aload_n 0, 1) := by decide +kernel
theorem dX0_begin_9 : decode cX0_begin 9 = .ok (.iload_n 2, 1) := by decide +kernel
theorem dX0_begin_10 : decode cX0_begin 10 = .ok (.invokevirtual 62, 3) := by decide +kernel
theorem dX0_begin_13 : decode cX0_begin 13 = .ok (.istore_n 3, 1) := by decide +kernel
theorem dX0_begin_14 : decode cX0_begin 14 = .ok (.aload_n 0, 1) := by decide +kernel
theorem dX0_begin_15 : decode cX0_begin 15 = .ok (.iload_n 1, 1) := by decide +kernel
theorem dX0_begin_16 : decode cX0_begin 16 = .ok (.iload_n 2, 1) := by decide +kernel
theorem dX0_begin_17 : decode cX0_begin 17 = .ok (.invokevirtual 53, 3) := by decide +kernel
theorem dX0_begin_20 : decode cX0_begin 20 = .ok (.istore 4, 2) := by decide +kernel
theorem dX0_begin_22 : decode cX0_begin 22 = .ok (.aload_n 0, 1) := by decide +kernel
theorem dX0_begin_23 : decode cX0_begin 23 = .ok (.getfield 27, 3) := by decide +kernel
theorem dX0_begin_26 : decode cX0_begin 26 = .ok (.iload_n 2, 1) := by decide +kernel
theorem dX0_begin_27 : decode cX0_begin 27 = .ok (.iload_n 3, 1) := by decide +kernel
theorem dX0_begin_28 : decode cX0_begin 28 = .ok (.iastore, 1) := by decide +kernel
theorem dX0_begin_29 : decode cX0_begin 29 = .ok (.aload_n 0, 1) := by decide +kernel
theorem dX0_begin_30 : decode cX0_begin 30 = .ok (.getfield 30, 3) := by decide +kernel
theorem dX0_begin_33 : decode cX0_begin 33 = .ok (.iload_n 2, 1) := by decide +kernel
theorem dX0_begin_34 : decode cX0_begin 34 = .ok (.iload 4, 2) := by decide +kernel
theorem dX0_begin_36 : decode cX0_begin 36 = .ok (.iconst (-1), 1) := by decide +kernel
theorem dX0_begin_37 : decode cX0_begin 37 = .ok (.if_icmp .ne 7, 3) := by decide +kernel
theorem dX0_begin_40 : decode cX0_begin 40 = .ok (.iload_n 3, 1) := by decide +kernel
theorem dX0_begin_41 : decode cX0_begin 41 = .ok (.goto 5, 3) := by decide +kernel
theorem dX0_begin_44 : decode cX0_begin 44 = .ok (.iload 4, 2) := by decide +kernel
theorem dX0_begin_46 : decode cX0_begin 46 = .ok (.iastore, 1) := by decide +kernel
theorem dX0_begin_47 : decode cX0_begin 47 = .ok (.iinc 2 1, 3) := by decide +kernel
theorem dX0_begin_50 : decode cX0_begin 50 = .ok (.goto (-48), 3) := by decide +kernel
theorem dX0_begin_53 : decode cX0_begin 53 = .ok (.aload_n 0, 1) := by decide +kernel
theorem dX0_begin_54 : decode cX0_begin 54 = .ok (.iload_n 1, 1) := by decide +kernel
theorem dX0_begin_55 : decode cX0_begin 55 = .ok (.putfield 33, 3) := by decide +kernel
theorem dX0_begin_58 : decode cX0_begin 58 = .ok (.aload_n 0, 1) := by decide +kernel
theorem dX0_begin_59 : decode cX0_begin 59 = .ok (.iconst 0, 1) := by decide +kernel
theorem dX0_begin_60 : decode cX0_begin 60 = .ok (.putfield 66, 3) := by decide +kernel
theorem dX0_begin_63 : decode cX0_begin 63 = .ok (.return_, 1) := by decide +kernel
set_option maxRecDepth 20000 in
theorem ggX0_levelNow_X0_has : GoodIn wsX0_levelNow wsX0_has := goodIn_r _ [11, 12, 16, 17, 18, 19, 20, 21, 22, 23, 24] (by decide +kernel) (by decide +kernel)
set_option maxRecDepth 20000 in
theorem gX0_levelNow_X0_has : GoodIn wsX0_levelNow (wsV RX0 46 RX0 yX0_has wsX0_has) := goodIn_app (goodIn_of _ (by decide +kernel)) ggX0_levelNow_X0_has
set_option maxRecDepth 20000 in
theorem ggX0_levelNow_X3_isChannel : GoodIn wsX0_levelNow wsX3_isChannel := goodIn_r _ [15] (by decide +kernel) (by decide +kernel)
set_option maxRecDepth 20000 in
theorem gX0_levelNow_X3_isChannel_n50 : GoodIn wsX0_levelNow (wsX3_isChannel) := ggX0_levelNow_X3_isChannel
theorem dX0_levelNow_0 : decode cX0_levelNow 0 = .ok (.aload_n 0, 1) := by decide +kernel
theorem dX0_levelNow_1 : decode cX0_levelNow 1 = .ok (.aload_n 0, 1) := by decide +kernel
theorem dX0_levelNow_2 : decode cX0_levelNow 2 = .ok (.getfield 33, 3) := by decide +kernel
theorem dX0_levelNow_5 : decode cX0_levelNow 5 = .ok (.invokevirtual 46, 3) := by decide +kernel
theorem dX0_levelNow_8 : decode cX0_levelNow 8 = .ok (.ifCond .eq 10, 3) := by decide +kernel
theorem dX0_levelNow_11 : decode cX0_levelNow 11 = .ok (.iload_n 1, 1) := by decide +kernel
theorem dX0_levelNow_12 : decode cX0_levelNow 12 = .ok (.invokestatic 50, 3) := by decide +kernel
theorem dX0_levelNow_15 : decode cX0_levelNow 15 = .ok (.ifCond .ne 5, 3) := by decide +kernel
theorem dX0_levelNow_18 : decode cX0_levelNow 18 = .ok (.iconst 0, 1) := by decide +kernel
theorem dX0_levelNow_19 : decode cX0_levelNow 19 = .ok (.ireturn, 1) := by decide +kernel
theorem dX0_levelNow_20 : decode cX0_levelNow 20 = .ok (.aload_n 0, 1) := by decide +kernel
theorem dX0_levelNow_21 : decode cX0_levelNow 21 = .ok (.getfield 15, 3) := by decide +kernel
theorem dX0_levelNow_24 : decode cX0_levelNow 24 = .ok (.aload_n 0, 1) := by decide +kernel
theorem dX0_levelNow_25 : decode cX0_levelNow 25 = .ok (.getfield 33, 3) := by decide +kernel
theorem dX0_levelNow_28 : decode cX0_levelNow 28 = .ok (.iaload, 1) := by decide +kernel
theorem dX0_levelNow_29 : decode cX0_levelNow 29 = .ok (.istore_n 2, 1) := by decide +kernel
theorem dX0_levelNow_30 : decode cX0_levelNow 30 = .ok (.aload_n 0, 1) := by decide +kernel
theorem dX0_levelNow_31 : decode cX0_levelNow 31 = .ok (.getfield 66, 3) := by decide +kernel
theorem dX0_levelNow_34 : decode cX0_levelNow 34 = .ok (.aload_n 0, 1) := by decide +kernel
theorem dX0_levelNow_35 : decode cX0_levelNow 35 = .ok (.getfield 9, 3) := by decide +kernel
theorem dX0_levelNow_38 : decode cX0_levelNow 38 = .ok (.aload_n 0, 1) := by decide +kernel
theorem dX0_levelNow_39 : decode cX0_levelNow 39 = .ok (.getfield 33, 3) := by decide +kernel
theorem dX0_levelNow_42 : decode cX0_levelNow 42 = .ok (.iaload, 1) := by decide +kernel
theorem dX0_levelNow_43 : decode cX0_levelNow 43 = .ok (.isub, 1) := by decide +kernel
theorem dX0_levelNow_44 : decode cX0_levelNow 44 = .ok (.istore_n 3, 1) := by decide +kernel
theorem dX0_levelNow_45 : decode cX0_levelNow 45 = .ok (.iload_n 3, 1) := by decide +kernel
theorem dX0_levelNow_46 : decode cX0_levelNow 46 = .ok (.ifCond .ge 10, 3) := by decide +kernel
theorem dX0_levelNow_49 : decode cX0_levelNow 49 = .ok (.aload_n 0, 1) := by decide +kernel
theorem dX0_levelNow_50 : decode cX0_levelNow 50 = .ok (.getfield 27, 3) := by decide +kernel
theorem dX0_levelNow_53 : decode cX0_levelNow 53 = .ok (.iload_n 1, 1) := by decide +kernel
theorem dX0_levelNow_54 : decode cX0_levelNow 54 = .ok (.iaload, 1) := by decide +kernel
theorem dX0_levelNow_55 : decode cX0_levelNow 55 = .ok (.ireturn, 1) := by decide +kernel
theorem dX0_levelNow_56 : decode cX0_levelNow 56 = .ok (.iload_n 2, 1) := by decide +kernel
theorem dX0_levelNow_57 : decode cX0_levelNow 57 = .ok (.ifCond .le 8, 3) := by decide +kernel
theorem dX0_levelNow_60 : decode cX0_levelNow 60 = .ok (.iload_n 3, 1) := by decide +kernel
theorem dX0_levelNow_61 : decode cX0_levelNow 61 = .ok (.iload_n 2, 1) := by decide +kernel
theorem dX0_levelNow_62 : decode cX0_levelNow 62 = .ok (.if_icmp .lt 10, 3) := by decide +kernel
theorem dX0_levelNow_65 : decode cX0_levelNow 65 = .ok (.aload_n 0, 1) := by decide +kernel
theorem dX0_levelNow_66 : decode cX0_levelNow 66 = .ok (.getfield 30, 3) := by decide +kernel
theorem dX0_levelNow_69 : decode cX0_levelNow 69 = .ok (.iload_n 1, 1) := by decide +kernel
theorem dX0_levelNow_70 : decode cX0_levelNow 70 = .ok (.iaload, 1) := by decide +kernel
theorem dX0_levelNow_71 : decode cX0_levelNow 71 = .ok (.ireturn, 1) := by decide +kernel
theorem dX0_levelNow_72 : decode cX0_levelNow 72 = .ok (.aload_n 0, 1) := by decide +kernel
theorem dX0_levelNow_73 : decode cX0_levelNow 73 = .ok (.getfield 27, 3) := by decide +kernel
theorem dX0_levelNow_76 : decode cX0_levelNow 76 = .ok (.iload_n 1, 1) := by decide +kernel
theorem dX0_levelNow_77 : decode cX0_levelNow 77 = .ok (.iaload, 1) := by decide +kernel
theorem dX0_levelNow_78 : decode cX0_levelNow 78 = .ok (.aload_n 0, 1) := by decide +kernel
theorem dX0_levelNow_79 : decode cX0_levelNow 79 = .ok (.getfield 30, 3) := by decide +kernel
theorem dX0_levelNow_82 : decode cX0_levelNow 82 = .ok (.iload_n 1, 1) := by decide +kernel
theorem dX0_levelNow_83 : decode cX0_levelNow 83 = .ok (.iaload, 1) := by decide +kernel
theorem dX0_levelNow_84 : decode cX0_levelNow 84 = .ok (.aload_n 0, 1) := by decide +kernel
theorem dX0_levelNow_85 : decode cX0_levelNow 85 = .ok (.getfield 27, 3) := by decide +kernel
theorem dX0_levelNow_88 : decode cX0_levelNow 88 = .ok (.iload_n 1, 1) := by decide +kernel
theorem dX0_levelNow_89 : decode cX0_levelNow 89 = .ok (.iaload, 1) := by decide +kernel
theorem dX0_levelNow_90 : decode cX0_levelNow 90 = .ok (.isub, 1) := by decide +kernel
theorem dX0_levelNow_91 : decode cX0_levelNow 91 = .ok (.iload_n 3, 1) := by decide +kernel
theorem dX0_levelNow_92 : decode cX0_levelNow 92 = .ok (.imul, 1) := by decide +kernel
theorem dX0_levelNow_93 : decode cX0_levelNow 93 = .ok (.iload_n 2, 1) := by decide +kernel
theorem dX0_levelNow_94 : decode cX0_levelNow 94 = .ok (.idiv, 1) := by decide +kernel
theorem dX0_levelNow_95 : decode cX0_levelNow 95 = .ok (.iadd, 1) := by decide +kernel
theorem dX0_levelNow_96 : decode cX0_levelNow 96 = .ok (.ireturn, 1) := by decide +kernel
set_option maxRecDepth 20000 in
theorem ggX0_isOver_X0_has : GoodIn wsX0_isOver wsX0_has := goodIn_r _ [9, 10, 11, 12, 13, 14, 15, 16, 17, 18, 19] (by decide +kernel) (by decide +kernel)
set_option maxRecDepth 20000 in
theorem gX0_isOver_X0_has : GoodIn wsX0_isOver (wsV RX0 46 RX0 yX0_has wsX0_has) := goodIn_app (goodIn_of _ (by decide +kernel)) ggX0_isOver_X0_has
theorem dX0_isOver_0 : decode cX0_isOver 0 = .ok (.aload_n 0, 1) := by decide +kernel
theorem dX0_isOver_1 : decode cX0_isOver 1 = .ok (.aload_n 0, 1) := by decide +kernel
theorem dX0_isOver_2 : decode cX0_isOver 2 = .ok (.getfield 33, 3) := by decide +kernel
theorem dX0_isOver_5 : decode cX0_isOver 5 = .ok (.invokevirtual 46, 3) := by decide +kernel
theorem dX0_isOver_8 : decode cX0_isOver 8 = .ok (.ifCond .eq 29, 3) := by decide +kernel
theorem dX0_isOver_11 : decode cX0_isOver 11 = .ok (.aload_n 0, 1) := by decide +kernel
theorem dX0_isOver_12 : decode cX0_isOver 12 = .ok (.getfield 66, 3) := by decide +kernel
theorem dX0_isOver_15 : decode cX0_isOver 15 = .ok (.aload_n 0, 1) := by decide +kernel
theorem dX0_isOver_16 : decode cX0_isOver 16 = .ok (.getfield 9, 3) := by decide +kernel
theorem dX0_isOver_19 : decode cX0_isOver 19 = .ok (.aload_n 0, 1) := by decide +kernel
theorem dX0_isOver_20 : decode cX0_isOver 20 = .ok (.getfield 33, 3) := by decide +kernel
theorem dX0_isOver_23 : decode cX0_isOver 23 = .ok (.iaload, 1) := by decide +kernel
theorem dX0_isOver_24 : decode cX0_isOver 24 = .ok (.aload_n 0, 1) := by decide +kernel
theorem dX0_isOver_25 : decode cX0_isOver 25 = .ok (.getfield 15, 3) := by decide +kernel
theorem dX0_isOver_28 : decode cX0_isOver 28 = .ok (.aload_n 0, 1) := by decide +kernel
theorem dX0_isOver_29 : decode cX0_isOver 29 = .ok (.getfield 33, 3) := by decide +kernel
theorem dX0_isOver_32 : decode cX0_isOver 32 = .ok (.iaload, 1) := by decide +kernel
theorem dX0_isOver_33 : decode cX0_isOver 33 = .ok (.iadd, 1) := by decide +kernel
theorem dX0_isOver_34 : decode cX0_isOver 34 = .ok (.if_icmp .lt 7, 3) := by decide +kernel
theorem dX0_isOver_37 : decode cX0_isOver 37 = .ok (.iconst 1, 1) := by decide +kernel
theorem dX0_isOver_38 : decode cX0_isOver 38 = .ok (.goto 4, 3) := by decide +kernel
theorem dX0_isOver_41 : decode cX0_isOver 41 = .ok (.iconst 0, 1) := by decide +kernel
theorem dX0_isOver_42 : decode cX0_isOver 42 = .ok (.ireturn, 1) := by decide +kernel
set_option maxRecDepth 20000 in
theorem ggX0_endsInNextTenth_X0_isOver : GoodIn wsX0_endsInNextTenth wsX0_isOver := goodIn_r _ [6, 7, 1, 8, 9, 10, 11, 12, 5, 13, 14, 15, 16, 17, 18, 19, 20, 21, 22, 23] (by decide +kernel) (by decide +kernel)
set_option maxRecDepth 20000 in
theorem gX0_endsInNextTenth_X0_isOver : GoodIn wsX0_endsInNextTenth (wsV RX0 69 RX0 yX0_isOver wsX0_isOver) := goodIn_app (goodIn_of _ (by decide +kernel)) ggX0_endsInNextTenth_X0_isOver
theorem dX0_endsInNextTenth_0 : decode cX0_endsInNextTenth 0 = .ok (.aload_n 0, 1) := by decide +kernel
theorem dX0_endsInNextTenth_1 : decode cX0_endsInNextTenth 1 = .ok (.invokevirtual 69, 3) := by decide +kernel
theorem dX0_endsInNextTenth_4 : decode cX0_endsInNextTenth 4 = .ok (.ifCond .eq 5, 3) := by decide +kernel
theorem dX0_endsInNextTenth_7 : decode cX0_endsInNextTenth 7 = .ok (.iconst 0, 1) := by decide +kernel
theorem dX0_endsInNextTenth_8 : decode cX0_endsInNextTenth 8 = .ok (.ireturn, 1) := by decide +kernel
theorem dX0_endsInNextTenth_9 : decode cX0_endsInNextTenth 9 = .ok (.aload_n 0, 1) := by decide +kernel
theorem dX0_endsInNextTenth_10 : decode cX0_endsInNextTenth 10 = .ok (.dup, 1) := by decide +kernel
theorem dX0_endsInNextTenth_11 : decode cX0_endsInNextTenth 11 = .ok (.getfield 66, 3) := by decide +kernel
theorem dX0_endsInNextTenth_14 : decode cX0_endsInNextTenth 14 = .ok (.iconst 1, 1) := by decide +kernel
theorem dX0_endsInNextTenth_15 : decode cX0_endsInNextTenth 15 = .ok (.iadd, 1) := by decide +kernel
theorem dX0_endsInNextTenth_16 : decode cX0_endsInNextTenth 16 = .ok (.putfield 66, 3) := by decide +kernel
theorem dX0_endsInNextTenth_19 : decode cX0_endsInNextTenth 19 = .ok (.aload_n 0, 1) := by decide +kernel
theorem dX0_endsInNextTenth_20 : decode cX0_endsInNextTenth 20 = .ok (.invokevirtual 69, 3) := by decide +kernel
theorem dX0_endsInNextTenth_23 : decode cX0_endsInNextTenth 23 = .ok (.ireturn, 1) := by decide +kernel
set_option maxRecDepth 20000 in
theorem ggX0_follower_X0_has : GoodIn wsX0_follower wsX0_has := goodIn_r _ [7, 8, 9, 10, 11, 12, 13, 14, 15, 16, 17] (by decide +kernel) (by decide +kernel)
set_option maxRecDepth 20000 in
theorem gX0_follower_X0_has : GoodIn wsX0_follower (wsV RX0 46 RX0 yX0_has wsX0_has) := goodIn_app (goodIn_of _ (by decide +kernel)) ggX0_follower_X0_has
theorem dX0_follower_0 : decode cX0_follower 0 = .ok (.aload_n 0, 1) := by decide +kernel
theorem dX0_follower_1 : decode cX0_follower 1 = .ok (.getfield 33, 3) := by decide +kernel
theorem dX0_follower_4 : decode cX0_follower 4 = .ok (.iconst 1, 1) := by decide +kernel
theorem dX0_follower_5 : decode cX0_follower 5 = .ok (.iadd, 1) := by decide +kernel
theorem dX0_follower_6 : decode cX0_follower 6 = .ok (.istore_n 1, 1) := by decide +kernel
theorem dX0_follower_7 : decode cX0_follower 7 = .ok (.aload_n 0, 1) := by decide +kernel
theorem dX0_follower_8 : decode cX0_follower 8 = .ok (.aload_n 0, 1) := by decide +kernel
theorem dX0_follower_9 : decode cX0_follower 9 = .ok (.getfield 33, 3) := by decide +kernel
theorem dX0_follower_12 : decode cX0_follower 12 = .ok (.invokevirtual 46, 3) := by decide +kernel
theorem dX0_follower_15 : decode cX0_follower 15 = .ok (.ifCond .eq 24, 3) := by decide +kernel
theorem dX0_follower_18 : decode cX0_follower 18 = .ok (.aload_n 0, 1) := by decide +kernel
theorem dX0_follower_19 : decode cX0_follower 19 = .ok (.iload_n 1, 1) := by decide +kernel
theorem dX0_follower_20 : decode cX0_follower 20 = .ok (.invokevirtual 46, 3) := by decide +kernel
theorem dX0_follower_23 : decode cX0_follower 23 = .ok (.ifCond .eq 16, 3) := by decide +kernel
theorem dX0_follower_26 : decode cX0_follower 26 = .ok (.aload_n 0, 1) := by decide +kernel
theorem dX0_follower_27 : decode cX0_follower 27 = .ok (.getfield 18, 3) := by decide +kernel
theorem dX0_follower_30 : decode cX0_follower 30 = .ok (.iload_n 1, 1) := by decide +kernel
theorem dX0_follower_31 : decode cX0_follower 31 = .ok (.baload, 1) := by decide +kernel
theorem dX0_follower_32 : decode cX0_follower 32 = .ok (.ifCond .eq 7, 3) := by decide +kernel
theorem dX0_follower_35 : decode cX0_follower 35 = .ok (.iload_n 1, 1) := by decide +kernel
theorem dX0_follower_36 : decode cX0_follower 36 = .ok (.goto 4, 3) := by decide +kernel
theorem dX0_follower_39 : decode cX0_follower 39 = .ok (.iconst (-1), 1) := by decide +kernel
theorem dX0_follower_40 : decode cX0_follower 40 = .ok (.ireturn, 1) := by decide +kernel
theorem dX1_init_0 : decode cX1_init 0 = .ok (.aload_n 0, 1) := by decide +kernel
theorem dX1_init_1 : decode cX1_init 1 = .ok (.invokespecial 3, 3) := by decide +kernel
theorem dX1_init_4 : decode cX1_init 4 = .ok (.aload_n 0, 1) := by decide +kernel
theorem dX1_init_5 : decode cX1_init 5 = .ok (.bipush 20, 2) := by decide +kernel
theorem dX1_init_7 : decode cX1_init 7 = .ok (.iconst 5, 1) := by decide +kernel
theorem dX1_init_8 : decode cX1_init 8 = .ok (.multianewarray 11 2, 4) := by decide +kernel
theorem dX1_init_12 : decode cX1_init 12 = .ok (.putfield 13, 3) := by decide +kernel
theorem dX1_init_15 : decode cX1_init 15 = .ok (.return_, 1) := by decide +kernel
theorem dX1_isEmpty_0 : decode cX1_isEmpty 0 = .ok (.aload_n 0, 1) := by decide +kernel
theorem dX1_isEmpty_1 : decode cX1_isEmpty 1 = .ok (.getfield 16, 3) := by decide +kernel
theorem dX1_isEmpty_4 : decode cX1_isEmpty 4 = .ok (.ifCond .gt 7, 3) := by decide +kernel
theorem dX1_isEmpty_7 : decode cX1_isEmpty 7 = .ok (.iconst 1, 1) := by decide +kernel
theorem dX1_isEmpty_8 : decode cX1_isEmpty 8 = .ok (.goto 4, 3) := by decide +kernel
theorem dX1_isEmpty_11 : decode cX1_isEmpty 11 = .ok (.iconst 0, 1) := by decide +kernel
theorem dX1_isEmpty_12 : decode cX1_isEmpty 12 = .ok (.ireturn, 1) := by decide +kernel
theorem dX1_size_0 : decode cX1_size 0 = .ok (.aload_n 0, 1) := by decide +kernel
theorem dX1_size_1 : decode cX1_size 1 = .ok (.getfield 16, 3) := by decide +kernel
theorem dX1_size_4 : decode cX1_size 4 = .ok (.ireturn, 1) := by decide +kernel
set_option maxRecDepth 20000 in
theorem ggX1_note_X1_put : GoodIn wsX1_note wsX1_put := goodIn_r _ [11, 1, 12, 13, 14, 10, 15, 16, 17, 18] (by decide +kernel) (by decide +kernel)
set_option maxRecDepth 20000 in
theorem gX1_note_X1_put : GoodIn wsX1_note (wsV RX1 20 RX1 yX1_put wsX1_put) := goodIn_app (goodIn_of _ (by decide +kernel)) ggX1_note_X1_put
theorem dX1_note_0 : decode cX1_note 0 = .ok (.aload_n 0, 1) := by decide +kernel
theorem dX1_note_1 : decode cX1_note 1 = .ok (.iconst 0, 1) := by decide +kernel
theorem dX1_note_2 : decode cX1_note 2 = .ok (.iload_n 1, 1) := by decide +kernel
theorem dX1_note_3 : decode cX1_note 3 = .ok (.invokevirtual 20, 3) := by decide +kernel
theorem dX1_note_6 : decode cX1_note 6 = .ok (.aload_n 0, 1) := by decide +kernel
theorem dX1_note_7 : decode cX1_note 7 = .ok (.iconst 1, 1) := by decide +kernel
theorem dX1_note_8 : decode cX1_note 8 = .ok (.iload_n 2, 1) := by decide +kernel
theorem dX1_note_9 : decode cX1_note 9 = .ok (.invokevirtual 20, 3) := by decide +kernel
theorem dX1_note_12 : decode cX1_note 12 = .ok (.aload_n 0, 1) := by decide +kernel
theorem dX1_note_13 : decode cX1_note 13 = .ok (.iconst 2, 1) := by decide +kernel
theorem dX1_note_14 : decode cX1_note 14 = .ok (.iload_n 3, 1) := by decide +kernel
theorem dX1_note_15 : decode cX1_note 15 = .ok (.invokevirtual 20, 3) := by decide +kernel
theorem dX1_note_18 : decode cX1_note 18 = .ok (.aload_n 0, 1) := by decide +kernel
theorem dX1_note_19 : decode cX1_note 19 = .ok (.iconst 3, 1) := by decide +kernel
theorem dX1_note_20 : decode cX1_note 20 = .ok (.iload 4, 2) := by decide +kernel
theorem dX1_note_22 : decode cX1_note 22 = .ok (.invokevirtual 20, 3) := by decide +kernel
theorem dX1_note_25 : decode cX1_note 25 = .ok (.aload_n 0, 1) := by decide +kernel
theorem dX1_note_26 : decode cX1_note 26 = .ok (.iconst 4, 1) := by decide +kernel
theorem dX1_note_27 : decode cX1_note 27 = .ok (.iload 5, 2) := by decide +kernel
theorem dX1_note_29 : decode cX1_note 29 = .ok (.invokevirtual 20, 3) := by decide +kernel
theorem dX1_note_32 : decode cX1_note 32 = .ok (.aload_n 0, 1) := by decide +kernel
theorem dX1_note_33 : decode cX1_note 33 = .ok (.aload_n 0, 1) := by decide +kernel
theorem dX1_note_34 : decode cX1_note 34 = .ok (.getfield 24, 3) := by decide +kernel
theorem dX1_note_37 : decode cX1_note 37 = .ok (.iconst 1, 1) := by decide +kernel
theorem dX1_note_38 : decode cX1_note 38 = .ok (.iadd, 1) := by decide +kernel
theorem dX1_note_39 : decode cX1_note 39 = .ok (.bipush 20, 2) := by decide +kernel
theorem dX1_note_41 : decode cX1_note 41 = .ok (.if_icmp .ge 12, 3) := by decide +kernel
theorem dX1_note_44 : decode cX1_note 44 = .ok (.aload_n 0, 1) := by decide +kernel
theorem dX1_note_45 : decode cX1_note 45 = .ok (.getfield 24, 3) := by decide +kernel
theorem dX1_note_48 : decode cX1_note 48 = .ok (.iconst 1, 1) := by decide +kernel
theorem dX1_note_49 : decode cX1_note 49 = .ok (.iadd, 1) := by decide +kernel
theorem dX1_note_50 : decode cX1_note 50 = .ok (.goto 4, 3) := by decide +kernel
theorem dX1_note_53 : decode cX1_note 53 = .ok (.iconst 0, 1) := by decide +kernel
theorem dX1_note_54 : decode cX1_note 54 = .ok (.putfield 24, 3) := by decide +kernel
theorem dX1_note_57 : decode cX1_note 57 = .ok (.aload_n 0, 1) := by decide +kernel
theorem dX1_note_58 : decode cX1_note 58 = .ok (.aload_n 0, 1) := by decide +kernel
theorem dX1_note_59 : decode cX1_note 59 = .ok (.getfield 16, 3) := by decide +kernel
theorem dX1_note_62 : decode cX1_note 62 = .ok (.iconst 1, 1) := by decide +kernel
theorem dX1_note_63 : decode cX1_note 63 = .ok (.iadd, 1) := by decide +kernel
theorem dX1_note_64 : decode cX1_note 64 = .ok (.bipush 20, 2) := by decide +kernel
theorem dX1_note_66 : decode cX1_note 66 = .ok (.invokestatic 27, 3) := by decide +kernel
theorem dX1_note_69 : decode cX1_note 69 = .ok (.putfield 16, 3) := by decide +kernel
theorem dX1_note_72 : decode cX1_note 72 = .ok (.return_, 1) := by decide +kernel
set_option maxRecDepth 20000 in
theorem ggX1_lastPart_X1_lastRow : GoodIn wsX1_lastPart wsX1_lastRow := goodIn_r _ [6, 7, 11, 12, 13] (by decide +kernel) (by decide +kernel)
set_option maxRecDepth 20000 in
theorem gX1_lastPart_X1_lastRow : GoodIn wsX1_lastPart (wsV RX1 33 RX1 yX1_lastRow wsX1_lastRow) := goodIn_app (goodIn_of _ (by decide +kernel)) ggX1_lastPart_X1_lastRow
set_option maxRecDepth 20000 in
theorem ggX1_lastPart_X1_isPlace : GoodIn wsX1_lastPart wsX1_isPlace := goodIn_r _ [10] (by decide +kernel) (by decide +kernel)
set_option maxRecDepth 20000 in
theorem gX1_lastPart_X1_isPlace : GoodIn wsX1_lastPart (va_wsS RX1 37 yX1_isPlace wsX1_isPlace) := goodIn_app (goodIn_of _ (by decide +kernel)) ggX1_lastPart_X1_isPlace
theorem dX1_lastPart_0 : decode cX1_lastPart 0 = .ok (.aload_n 0, 1) := by decide +kernel
theorem dX1_lastPart_1 : decode cX1_lastPart 1 = .ok (.invokevirtual 33, 3) := by decide +kernel
theorem dX1_lastPart_4 : decode cX1_lastPart 4 = .ok (.istore_n 2, 1) := by decide +kernel
theorem dX1_lastPart_5 : decode cX1_lastPart 5 = .ok (.iload_n 2, 1) := by decide +kernel
theorem dX1_lastPart_6 : decode cX1_lastPart 6 = .ok (.iload_n 1, 1) := by decide +kernel
theorem dX1_lastPart_7 : decode cX1_lastPart 7 = .ok (.invokestatic 37, 3) := by decide +kernel
theorem dX1_lastPart_10 : decode cX1_lastPart 10 = .ok (.ifCond .eq 14, 3) := by decide +kernel
theorem dX1_lastPart_13 : decode cX1_lastPart 13 = .ok (.aload_n 0, 1) := by decide +kernel
theorem dX1_lastPart_14 : decode cX1_lastPart 14 = .ok (.getfield 13, 3) := by decide +kernel
theorem dX1_lastPart_17 : decode cX1_lastPart 17 = .ok (.iload_n 2, 1) := by decide +kernel
theorem dX1_lastPart_18 : decode cX1_lastPart 18 = .ok (.aaload, 1) := by decide +kernel
theorem dX1_lastPart_19 : decode cX1_lastPart 19 = .ok (.iload_n 1, 1) := by decide +kernel
theorem dX1_lastPart_20 : decode cX1_lastPart 20 = .ok (.iaload, 1) := by decide +kernel
theorem dX1_lastPart_21 : decode cX1_lastPart 21 = .ok (.goto 4, 3) := by decide +kernel
theorem dX1_lastPart_24 : decode cX1_lastPart 24 = .ok (.iconst (-1), 1) := by decide +kernel
theorem dX1_lastPart_25 : decode cX1_lastPart 25 = .ok (.ireturn, 1) := by decide +kernel
set_option maxRecDepth 20000 in
theorem ggX1_dropLast_X1_lastRow : GoodIn wsX1_dropLast wsX1_lastRow := goodIn_r _ [11, 1, 12, 13, 14] (by decide +kernel) (by decide +kernel)
set_option maxRecDepth 20000 in
theorem gX1_dropLast_X1_lastRow : GoodIn wsX1_dropLast (wsV RX1 33 RX1 yX1_lastRow wsX1_lastRow) := goodIn_app (goodIn_of _ (by decide +kernel)) ggX1_dropLast_X1_lastRow
theorem dX1_dropLast_0 : decode cX1_dropLast 0 = .ok (.aload_n 0, 1) := by decide +kernel
theorem dX1_dropLast_1 : decode cX1_dropLast 1 = .ok (.aload_n 0, 1) := by decide +kernel
theorem dX1_dropLast_2 : decode cX1_dropLast 2 = .ok (.invokevirtual 33, 3) := by decide +kernel
theorem dX1_dropLast_5 : decode cX1_dropLast 5 = .ok (.putfield 24, 3) := by decide +kernel
theorem dX1_dropLast_8 : decode cX1_dropLast 8 = .ok (.aload_n 0, 1) := by decide +kernel
theorem dX1_dropLast_9 : decode cX1_dropLast 9 = .ok (.aload_n 0, 1) := by decide +kernel
theorem dX1_dropLast_10 : decode cX1_dropLast 10 = .ok (.getfield 16, 3) := by decide +kernel
theorem dX1_dropLast_13 : decode cX1_dropLast 13 = .ok (.iconst 1, 1) := by decide +kernel
theorem dX1_dropLast_14 : decode cX1_dropLast 14 = .ok (.isub, 1) := by decide +kernel
theorem dX1_dropLast_15 : decode cX1_dropLast 15 = .ok (.iconst 0, 1) := by decide +kernel
theorem dX1_dropLast_16 : decode cX1_dropLast 16 = .ok (.invokestatic 41, 3) := by decide +kernel
theorem dX1_dropLast_19 : decode cX1_dropLast 19 = .ok (.putfield 16, 3) := by decide +kernel
theorem dX1_dropLast_22 : decode cX1_dropLast 22 = .ok (.return_, 1) := by decide +kernel
theorem dX1_lastRow_0 : decode cX1_lastRow 0 = .ok (.aload_n 0, 1) := by decide +kernel
theorem dX1_lastRow_1 : decode cX1_lastRow 1 = .ok (.getfield 24, 3) := by decide +kernel
theorem dX1_lastRow_4 : decode cX1_lastRow 4 = .ok (.ifCond .le 12, 3) := by decide +kernel
theorem dX1_lastRow_7 : decode cX1_lastRow 7 = .ok (.aload_n 0, 1) := by decide +kernel
theorem dX1_lastRow_8 : decode cX1_lastRow 8 = .ok (.getfield 24, 3) := by decide +kernel
theorem dX1_lastRow_11 : decode cX1_lastRow 11 = .ok (.iconst 1, 1) := by decide +kernel
theorem dX1_lastRow_12 : decode cX1_lastRow 12 = .ok (.isub, 1) := by decide +kernel
theorem dX1_lastRow_13 : decode cX1_lastRow 13 = .ok (.goto 5, 3) := by decide +kernel
theorem dX1_lastRow_16 : decode cX1_lastRow 16 = .ok (.bipush 19, 2) := by decide +kernel
theorem dX1_lastRow_18 : decode cX1_lastRow 18 = .ok (.ireturn, 1) := by decide +kernel
set_option maxRecDepth 20000 in
theorem ggX1_put_X1_isPlace : GoodIn wsX1_put wsX1_isPlace := goodIn_r _ [6] (by decide +kernel) (by decide +kernel)
set_option maxRecDepth 20000 in
theorem gX1_put_X1_isPlace : GoodIn wsX1_put (va_wsS RX1 37 yX1_isPlace wsX1_isPlace) := goodIn_app (goodIn_of _ (by decide +kernel)) ggX1_put_X1_isPlace
theorem dX1_put_0 : decode cX1_put 0 = .ok (.aload_n 0, 1) := by decide +kernel
theorem dX1_put_1 : decode cX1_put 1 = .ok (.getfield 24, 3) := by decide +kernel
theorem dX1_put_4 : decode cX1_put 4 = .ok (.iload_n 1, 1) := by decide +kernel
theorem dX1_put_5 : decode cX1_put 5 = .ok (.invokestatic 37, 3) := by decide +kernel
theorem dX1_put_8 : decode cX1_put 8 = .ok (.ifCond .eq 15, 3) := by decide +kernel
theorem dX1_put_11 : decode cX1_put 11 = .ok (.aload_n 0, 1) := by decide +kernel
theorem dX1_put_12 : decode cX1_put 12 = .ok (.getfield 13, 3) := by decide +kernel
theorem dX1_put_15 : decode cX1_put 15 = .ok (.aload_n 0, 1) := by decide +kernel
theorem dX1_put_16 : decode cX1_put 16 = .ok (.getfield 24, 3) := by decide +kernel
theorem dX1_put_19 : decode cX1_put 19 = .ok (.aaload, 1) := by decide +kernel
theorem dX1_put_20 : decode cX1_put 20 = .ok (.iload_n 1, 1) := by decide +kernel
theorem dX1_put_21 : decode cX1_put 21 = .ok (.iload_n 2, 1) := by decide +kernel
theorem dX1_put_22 : decode cX1_put 22 = .ok (.iastore, 1) := by decide +kernel
theorem dX1_put_23 : decode cX1_put 23 = .ok (.return_, 1) := by decide +kernel
theorem dX1_isPlace_0 : decode cX1_isPlace 0 = .ok (.iload_n 0, 1) := by decide +kernel
theorem dX1_isPlace_1 : decode cX1_isPlace 1 = .ok (.ifCond .lt 22, 3) := by decide +kernel
theorem dX1_isPlace_4 : decode cX1_isPlace 4 = .ok (.iload_n 0, 1) := by decide +kernel
theorem dX1_isPlace_5 : decode cX1_isPlace 5 = .ok (.bipush 20, 2) := by decide +kernel
theorem dX1_isPlace_7 : decode cX1_isPlace 7 = .ok (.if_icmp .ge 16, 3) := by decide +kernel
theorem dX1_isPlace_10 : decode cX1_isPlace 10 = .ok (.iload_n 1, 1) := by decide +kernel
theorem dX1_isPlace_11 : decode cX1_isPlace 11 = .ok (.ifCond .lt 12, 3) := by decide +kernel
theorem dX1_isPlace_14 : decode cX1_isPlace 14 = .ok (.iload_n 1, 1) := by decide +kernel
theorem dX1_isPlace_15 : decode cX1_isPlace 15 = .ok (.iconst 5, 1) := by decide +kernel
theorem dX1_isPlace_16 : decode cX1_isPlace 16 = .ok (.if_icmp .ge 7, 3) := by decide +kernel
theorem dX1_isPlace_19 : decode cX1_isPlace 19 = .ok (.iconst 1, 1) := by decide +kernel
theorem dX1_isPlace_20 : decode cX1_isPlace 20 = .ok (.goto 4, 3) := by decide +kernel
theorem dX1_isPlace_23 : decode cX1_isPlace 23 = .ok (.iconst 0, 1) := by decide +kernel
theorem dX1_isPlace_24 : decode cX1_isPlace 24 = .ok (.ireturn, 1) := by decide +kernel
set_option maxRecDepth 20000 in
theorem ggX2_init_J7_fill_53178 : GoodIn wsX2_init wsJ7_fill_53178 := goodIn_r _ [12] (by decide +kernel) (by decide +kernel)
set_option maxRecDepth 20000 in
theorem gX2_init_J7_fill_53178 : GoodIn wsX2_init (va_wsS RX2 23 yJ7_fill_53178 wsJ7_fill_53178) := goodIn_app (goodIn_of _ (by decide +kernel)) ggX2_init_J7_fill_53178
theorem dX2_init_0 : decode cX2_init 0 = .ok (.aload_n 0, 1) := by decide +kernel
theorem dX2_init_1 : decode cX2_init 1 = .ok (.invokespecial 3, 3) := by decide +kernel
theorem dX2_init_4 : decode cX2_init 4 = .ok (.aload_n 0, 1) := by decide +kernel
theorem dX2_init_5 : decode cX2_init 5 = .ok (.bipush 20, 2) := by decide +kernel
theorem dX2_init_7 : decode cX2_init 7 = .ok (.newarray .int, 2) := by decide +kernel
theorem dX2_init_9 : decode cX2_init 9 = .ok (.putfield 9, 3) := by decide +kernel
theorem dX2_init_12 : decode cX2_init 12 = .ok (.aload_n 0, 1) := by decide +kernel
theorem dX2_init_13 : decode cX2_init 13 = .ok (.bipush 20, 2) := by decide +kernel
theorem dX2_init_15 : decode cX2_init 15 = .ok (.newarray .int, 2) := by decide +kernel
theorem dX2_init_17 : decode cX2_init 17 = .ok (.putfield 15, 3) := by decide +kernel
theorem dX2_init_20 : decode cX2_init 20 = .ok (.aload_n 0, 1) := by decide +kernel
theorem dX2_init_21 : decode cX2_init 21 = .ok (.iconst 4, 1) := by decide +kernel
theorem dX2_init_22 : decode cX2_init 22 = .ok (.bipush 20, 2) := by decide +kernel
theorem dX2_init_24 : decode cX2_init 24 = .ok (.multianewarray 18 2, 4) := by decide +kernel
theorem dX2_init_28 : decode cX2_init 28 = .ok (.putfield 20, 3) := by decide +kernel
theorem dX2_init_31 : decode cX2_init 31 = .ok (.iconst 0, 1) := by decide +kernel
theorem dX2_init_32 : decode cX2_init 32 = .ok (.istore_n 1, 1) := by decide +kernel
theorem dX2_init_33 : decode cX2_init 33 = .ok (.iload_n 1, 1) := by decide +kernel
theorem dX2_init_34 : decode cX2_init 34 = .ok (.iconst 4, 1) := by decide +kernel
theorem dX2_init_35 : decode cX2_init 35 = .ok (.if_icmp .ge 19, 3) := by decide +kernel
theorem dX2_init_38 : decode cX2_init 38 = .ok (.aload_n 0, 1) := by decide +kernel
theorem dX2_init_39 : decode cX2_init 39 = .ok (.getfield 20, 3) := by decide +kernel
theorem dX2_init_42 : decode cX2_init 42 = .ok (.iload_n 1, 1) := by decide +kernel
theorem dX2_init_43 : decode cX2_init 43 = .ok (.aaload, 1) := by decide +kernel
theorem dX2_init_44 : decode cX2_init 44 = .ok (.iconst (-1), 1) := by decide +kernel
theorem dX2_init_45 : decode cX2_init 45 = .ok (.invokestatic 23, 3) := by decide +kernel
theorem dX2_init_48 : decode cX2_init 48 = .ok (.iinc 1 1, 3) := by decide +kernel
theorem dX2_init_51 : decode cX2_init 51 = .ok (.goto (-18), 3) := by decide +kernel
theorem dX2_init_54 : decode cX2_init 54 = .ok (.return_, 1) := by decide +kernel
theorem dX2_isFull_0 : decode cX2_isFull 0 = .ok (.aload_n 0, 1) := by decide +kernel
theorem dX2_isFull_1 : decode cX2_isFull 1 = .ok (.getfield 29, 3) := by decide +kernel
theorem dX2_isFull_4 : decode cX2_isFull 4 = .ok (.bipush 20, 2) := by decide +kernel
theorem dX2_isFull_6 : decode cX2_isFull 6 = .ok (.if_icmp .lt 7, 3) := by decide +kernel
theorem dX2_isFull_9 : decode cX2_isFull 9 = .ok (.iconst 1, 1) := by decide +kernel
theorem dX2_isFull_10 : decode cX2_isFull 10 = .ok (.goto 4, 3) := by decide +kernel
theorem dX2_isFull_13 : decode cX2_isFull 13 = .ok (.iconst 0, 1) := by decide +kernel
theorem dX2_isFull_14 : decode cX2_isFull 14 = .ok (.ireturn, 1) := by decide +kernel
theorem dX2_has_0 : decode cX2_has 0 = .ok (.iload_n 1, 1) := by decide +kernel
theorem dX2_has_1 : decode cX2_has 1 = .ok (.ifCond .lt 15, 3) := by decide +kernel
theorem dX2_has_4 : decode cX2_has 4 = .ok (.iload_n 1, 1) := by decide +kernel
theorem dX2_has_5 : decode cX2_has 5 = .ok (.aload_n 0, 1) := by decide +kernel
theorem dX2_has_6 : decode cX2_has 6 = .ok (.getfield 29, 3) := by decide +kernel
theorem dX2_has_9 : decode cX2_has 9 = .ok (.if_icmp .ge 7, 3) := by decide +kernel
theorem dX2_has_12 : decode cX2_has 12 = .ok (.iconst 1, 1) := by decide +kernel
theorem dX2_has_13 : decode cX2_has 13 = .ok (.goto 4, 3) := by decide +kernel
theorem dX2_has_16 : decode cX2_has 16 = .ok (.iconst 0, 1) := by decide +kernel
theorem dX2_has_17 : decode cX2_has 17 = .ok (.ireturn, 1) := by decide +kernel
set_option maxRecDepth 20000 in
theorem ggX2_add_X2_setKind : GoodIn wsX2_add wsX2_setKind := goodIn_r _ [6, 7, 8, 9, 10, 11, 5, 12, 1, 13, 14, 15, 16] (by decide +kernel) (by decide +kernel)
set_option maxRecDepth 20000 in
theorem gX2_add_X2_setKind : GoodIn wsX2_add (wsV RX2 33 RX2 yX2_setKind wsX2_setKind) := goodIn_app (goodIn_of _ (by decide +kernel)) ggX2_add_X2_setKind
theorem dX2_add_0 : decode cX2_add 0 = .ok (.aload_n 0, 1) := by decide +kernel
theorem dX2_add_1 : decode cX2_add 1 = .ok (.getfield 29, 3) := by decide +kernel
theorem dX2_add_4 : decode cX2_add 4 = .ok (.istore_n 3, 1) := by decide +kernel
theorem dX2_add_5 : decode cX2_add 5 = .ok (.iload_n 3, 1) := by decide +kernel
theorem dX2_add_6 : decode cX2_add 6 = .ok (.ifCond .lt 9, 3) := by decide +kernel
theorem dX2_add_9 : decode cX2_add 9 = .ok (.iload_n 3, 1) := by decide +kernel
theorem dX2_add_10 : decode cX2_add 10 = .ok (.bipush 20, 2) := by decide +kernel
theorem dX2_add_12 : decode cX2_add 12 = .ok (.if_icmp .lt 5, 3) := by decide +kernel
theorem dX2_add_15 : decode cX2_add 15 = .ok (.iconst (-1), 1) := by decide +kernel
theorem dX2_add_16 : decode cX2_add 16 = .ok (.ireturn, 1) := by decide +kernel
theorem dX2_add_17 : decode cX2_add 17 = .ok (.aload_n 0, 1) := by decide +kernel
theorem dX2_add_18 : decode cX2_add 18 = .ok (.dup, 1) := by decide +kernel
theorem dX2_add_19 : decode cX2_add 19 = .ok (.getfield 29, 3) := by decide +kernel
theorem dX2_add_22 : decode cX2_add 22 = .ok (.iconst 1, 1) := by decide +kernel
theorem dX2_add_23 : decode cX2_add 23 = .ok (.iadd, 1) := by decide +kernel
theorem dX2_add_24 : decode cX2_add 24 = .ok (.putfield 29, 3) := by decide +kernel
theorem dX2_add_27 : decode cX2_add 27 = .ok (.aload_n 0, 1) := by decide +kernel
theorem dX2_add_28 : decode cX2_add 28 = .ok (.iload_n 3, 1) := by decide +kernel
theorem dX2_add_29 : decode cX2_add 29 = .ok (.iload_n 1, 1) := by decide +kernel
theorem dX2_add_30 : decode cX2_add 30 = .ok (.iload_n 2, 1) := by decide +kernel
theorem dX2_add_31 : decode cX2_add 31 = .ok (.invokevirtual 33, 3) := by decide +kernel
theorem dX2_add_34 : decode cX2_add 34 = .ok (.iload_n 3, 1) := by decide +kernel
theorem dX2_add_35 : decode cX2_add 35 = .ok (.ireturn, 1) := by decide +kernel
set_option maxRecDepth 20000 in
theorem ggX2_powerOf_X2_has : GoodIn wsX2_powerOf wsX2_has := goodIn_r _ [6, 7, 8, 9, 10, 11] (by decide +kernel) (by decide +kernel)
set_option maxRecDepth 20000 in
theorem gX2_powerOf_X2_has : GoodIn wsX2_powerOf (wsV RX2 37 RX2 yX2_has wsX2_has) := goodIn_app (goodIn_of _ (by decide +kernel)) ggX2_powerOf_X2_has
theorem dX2_powerOf_0 : decode cX2_powerOf 0 = .ok (.aload_n 0, 1) := by decide +kernel
theorem dX2_powerOf_1 : decode cX2_powerOf 1 = .ok (.iload_n 1, 1) := by decide +kernel
theorem dX2_powerOf_2 : decode cX2_powerOf 2 = .ok (.invokevirtual 37, 3) := by decide +kernel
theorem dX2_powerOf_5 : decode cX2_powerOf 5 = .ok (.ifCond .eq 12, 3) := by decide +kernel
theorem dX2_powerOf_8 : decode cX2_powerOf 8 = .ok (.aload_n 0, 1) := by decide +kernel
theorem dX2_powerOf_9 : decode cX2_powerOf 9 = .ok (.getfield 9, 3) := by decide +kernel
theorem dX2_powerOf_12 : decode cX2_powerOf 12 = .ok (.iload_n 1, 1) := by decide +kernel
theorem dX2_powerOf_13 : decode cX2_powerOf 13 = .ok (.iaload, 1) := by decide +kernel
theorem dX2_powerOf_14 : decode cX2_powerOf 14 = .ok (.goto 4, 3) := by decide +kernel
theorem dX2_powerOf_17 : decode cX2_powerOf 17 = .ok (.iconst 0, 1) := by decide +kernel
theorem dX2_powerOf_18 : decode cX2_powerOf 18 = .ok (.ireturn, 1) := by decide +kernel
set_option maxRecDepth 20000 in
theorem ggX2_gelOf_X2_has : GoodIn wsX2_gelOf wsX2_has := goodIn_r _ [6, 7, 8, 9, 10, 11] (by decide +kernel) (by decide +kernel)
set_option maxRecDepth 20000 in
theorem gX2_gelOf_X2_has : GoodIn wsX2_gelOf (wsV RX2 37 RX2 yX2_has wsX2_has) := goodIn_app (goodIn_of _ (by decide +kernel)) ggX2_gelOf_X2_has
theorem dX2_gelOf_0 : decode cX2_gelOf 0 = .ok (.aload_n 0, 1) := by decide +kernel
theorem dX2_gelOf_1 : decode cX2_gelOf 1 = .ok (.iload_n 1, 1) := by decide +kernel
theorem dX2_gelOf_2 : decode cX2_gelOf 2 = .ok (.invokevirtual 37, 3) := by decide +kernel
theorem dX2_gelOf_5 : decode cX2_gelOf 5 = .ok (.ifCond .eq 12, 3) := by decide +kernel
theorem dX2_gelOf_8 : decode cX2_gelOf 8 = .ok (.aload_n 0, 1) := by decide +kernel
theorem dX2_gelOf_9 : decode cX2_gelOf 9 = .ok (.getfield 15, 3) := by decide +kernel
theorem dX2_gelOf_12 : decode cX2_gelOf 12 = .ok (.iload_n 1, 1) := by decide +kernel
theorem dX2_gelOf_13 : decode cX2_gelOf 13 = .ok (.iaload, 1) := by decide +kernel
theorem dX2_gelOf_14 : decode cX2_gelOf 14 = .ok (.goto 4, 3) := by decide +kernel
theorem dX2_gelOf_17 : decode cX2_gelOf 17 = .ok (.iconst 0, 1) := by decide +kernel
theorem dX2_gelOf_18 : decode cX2_gelOf 18 = .ok (.ireturn, 1) := by decide +kernel
set_option maxRecDepth 20000 in
theorem ggX2_setKind_X2_has : GoodIn wsX2_setKind wsX2_has := goodIn_r _ [7, 8, 9, 10, 11, 12] (by decide +kernel) (by decide +kernel)
set_option maxRecDepth 20000 in
theorem gX2_setKind_X2_has : GoodIn wsX2_setKind (wsV RX2 37 RX2 yX2_has wsX2_has) := goodIn_app (goodIn_of _ (by decide +kernel)) ggX2_setKind_X2_has
theorem dX2_setKind_0 : decode cX2_setKind 0 = .ok (.aload_n 0, 1) := by decide +kernel
theorem dX2_setKind_1 : decode cX2_setKind 1 = .ok (.iload_n 1, 1) := by decide +kernel
theorem dX2_setKind_2 : decode cX2_setKind 2 = .ok (.invokevirtual 37, 3) := by decide +kernel
theorem dX2_setKind_5 : decode cX2_setKind 5 = .ok (.ifCond .eq 17, 3) := by decide +kernel
theorem dX2_setKind_8 : decode cX2_setKind 8 = .ok (.aload_n 0, 1) := by decide +kernel
theorem dX2_setKind_9 : decode cX2_setKind 9 = .ok (.getfield 9, 3) := by decide +kernel
theorem dX2_setKind_12 : decode cX2_setKind 12 = .ok (.iload_n 1, 1) := by decide +kernel
theorem dX2_setKind_13 : decode cX2_setKind 13 = .ok (.iload_n 2, 1) := by decide +kernel
theorem dX2_setKind_14 : decode cX2_setKind 14 = .ok (.iastore, 1) := by decide +kernel
theorem dX2_setKind_15 : decode cX2_setKind 15 = .ok (.aload_n 0, 1) := by decide +kernel
theorem dX2_setKind_16 : decode cX2_setKind 16 = .ok (.getfield 15, 3) := by decide +kernel
theorem dX2_setKind_19 : decode cX2_setKind 19 = .ok (.iload_n 1, 1) := by decide +kernel
theorem dX2_setKind_20 : decode cX2_setKind 20 = .ok (.iload_n 3, 1) := by decide +kernel
theorem dX2_setKind_21 : decode cX2_setKind 21 = .ok (.iastore, 1) := by decide +kernel
theorem dX2_setKind_22 : decode cX2_setKind 22 = .ok (.return_, 1) := by decide +kernel
set_option maxRecDepth 20000 in
theorem ggX2_channelOf_X3_isNight : GoodIn wsX2_channelOf wsX3_isNight := goodIn_r _ [4] (by decide +kernel) (by decide +kernel)
set_option maxRecDepth 20000 in
theorem gX2_channelOf_X3_isNight_n41 : GoodIn wsX2_channelOf (wsX3_isNight) := ggX2_channelOf_X3_isNight
set_option maxRecDepth 20000 in
theorem ggX2_channelOf_X2_has : GoodIn wsX2_channelOf wsX2_has := goodIn_r _ [9, 10, 11, 12, 13, 14] (by decide +kernel) (by decide +kernel)
set_option maxRecDepth 20000 in
theorem gX2_channelOf_X2_has : GoodIn wsX2_channelOf (wsV RX2 37 RX2 yX2_has wsX2_has) := goodIn_app (goodIn_of _ (by decide +kernel)) ggX2_channelOf_X2_has
theorem dX2_channelOf_0 : decode cX2_channelOf 0 = .ok (.iload_n 1, 1) := by decide +kernel
theorem dX2_channelOf_1 : decode cX2_channelOf 1 = .ok (.invokestatic 41, 3) := by decide +kernel
theorem dX2_channelOf_4 : decode cX2_channelOf 4 = .ok (.ifCond .eq 22, 3) := by decide +kernel
theorem dX2_channelOf_7 : decode cX2_channelOf 7 = .ok (.aload_n 0, 1) := by decide +kernel
theorem dX2_channelOf_8 : decode cX2_channelOf 8 = .ok (.iload_n 2, 1) := by decide +kernel
theorem dX2_channelOf_9 : decode cX2_channelOf 9 = .ok (.invokevirtual 37, 3) := by decide +kernel
theorem dX2_channelOf_12 : decode cX2_channelOf 12 = .ok (.ifCond .eq 14, 3) := by decide +kernel
theorem dX2_channelOf_15 : decode cX2_channelOf 15 = .ok (.aload_n 0, 1) := by decide +kernel
theorem dX2_channelOf_16 : decode cX2_channelOf 16 = .ok (.getfield 20, 3) := by decide +kernel
theorem dX2_channelOf_19 : decode cX2_channelOf 19 = .ok (.iload_n 1, 1) := by decide +kernel
theorem dX2_channelOf_20 : decode cX2_channelOf 20 = .ok (.aaload, 1) := by decide +kernel
theorem dX2_channelOf_21 : decode cX2_channelOf 21 = .ok (.iload_n 2, 1) := by decide +kernel
theorem dX2_channelOf_22 : decode cX2_channelOf 22 = .ok (.iaload, 1) := by decide +kernel
theorem dX2_channelOf_23 : decode cX2_channelOf 23 = .ok (.goto 4, 3) := by decide +kernel
theorem dX2_channelOf_26 : decode cX2_channelOf 26 = .ok (.iconst (-1), 1) := by decide +kernel
theorem dX2_channelOf_27 : decode cX2_channelOf 27 = .ok (.ireturn, 1) := by decide +kernel
set_option maxRecDepth 20000 in
theorem ggX2_setChannel_X3_isNight : GoodIn wsX2_setChannel wsX3_isNight := goodIn_r _ [4] (by decide +kernel) (by decide +kernel)
set_option maxRecDepth 20000 in
theorem gX2_setChannel_X3_isNight_n41 : GoodIn wsX2_setChannel (wsX3_isNight) := ggX2_setChannel_X3_isNight
set_option maxRecDepth 20000 in
theorem ggX2_setChannel_X2_has : GoodIn wsX2_setChannel wsX2_has := goodIn_r _ [9, 10, 11, 12, 13, 14] (by decide +kernel) (by decide +kernel)
set_option maxRecDepth 20000 in
theorem gX2_setChannel_X2_has : GoodIn wsX2_setChannel (wsV RX2 37 RX2 yX2_has wsX2_has) := goodIn_app (goodIn_of _ (by decide +kernel)) ggX2_setChannel_X2_has
theorem dX2_setChannel_0 : decode cX2_setChannel 0 = .ok (.iload_n 1, 1) := by decide +kernel
theorem dX2_setChannel_1 : decode cX2_setChannel 1 = .ok (.invokestatic 41, 3) := by decide +kernel
theorem dX2_setChannel_4 : decode cX2_setChannel 4 = .ok (.ifCond .eq 20, 3) := by decide +kernel
theorem dX2_setChannel_7 : decode cX2_setChannel 7 = .ok (.aload_n 0, 1) := by decide +kernel
theorem dX2_setChannel_8 : decode cX2_setChannel 8 = .ok (.iload_n 2, 1) := by decide +kernel
theorem dX2_setChannel_9 : decode cX2_setChannel 9 = .ok (.invokevirtual 37, 3) := by decide +kernel
theorem dX2_setChannel_12 : decode cX2_setChannel 12 = .ok (.ifCond .eq 12, 3) := by decide +kernel
theorem dX2_setChannel_15 : decode cX2_setChannel 15 = .ok (.aload_n 0, 1) := by decide +kernel
theorem dX2_setChannel_16 : decode cX2_setChannel 16 = .ok (.getfield 20, 3) := by decide +kernel
theorem dX2_setChannel_19 : decode cX2_setChannel 19 = .ok (.iload_n 1, 1) := by decide +kernel
theorem dX2_setChannel_20 : decode cX2_setChannel 20 = .ok (.aaload, 1) := by decide +kernel
theorem dX2_setChannel_21 : decode cX2_setChannel 21 = .ok (.iload_n 2, 1) := by decide +kernel
theorem dX2_setChannel_22 : decode cX2_setChannel 22 = .ok (.iload_n 3, 1) := by decide +kernel
theorem dX2_setChannel_23 : decode cX2_setChannel 23 = .ok (.iastore, 1) := by decide +kernel
theorem dX2_setChannel_24 : decode cX2_setChannel 24 = .ok (.return_, 1) := by decide +kernel
set_option maxRecDepth 20000 in
theorem ggX2_shineOn_X2_channelOf : GoodIn wsX2_shineOn wsX2_channelOf := goodIn_r _ [6, 7, 8, 9, 10, 11, 12, 13, 5, 14, 1, 32, 33, 34, 35] (by decide +kernel) (by decide +kernel)
set_option maxRecDepth 20000 in
theorem gX2_shineOn_X2_channelOf : GoodIn wsX2_shineOn (wsV RX2 44 RX2 yX2_channelOf wsX2_channelOf) := goodIn_app (goodIn_of _ (by decide +kernel)) ggX2_shineOn_X2_channelOf
set_option maxRecDepth 20000 in
theorem ggX2_shineOn_X2_shine : GoodIn wsX2_shineOn wsX2_shine := goodIn_r _ [18, 19, 20, 21, 5, 22, 23, 11, 12, 13, 14, 1, 24, 25, 26, 27, 28, 29, 30, 31, 32, 33, 34, 35] (by decide +kernel) (by decide +kernel)
set_option maxRecDepth 20000 in
theorem gX2_shineOn_X2_shine : GoodIn wsX2_shineOn (wsV RX2 48 RX2 yX2_shine wsX2_shine) := goodIn_app (goodIn_of _ (by decide +kernel)) ggX2_shineOn_X2_shine
theorem dX2_shineOn_0 : decode cX2_shineOn 0 = .ok (.iconst 0, 1) := by decide +kernel
theorem dX2_shineOn_1 : decode cX2_shineOn 1 = .ok (.istore 4, 2) := by decide +kernel
theorem dX2_shineOn_3 : decode cX2_shineOn 3 = .ok (.iconst 0, 1) := by decide +kernel
theorem dX2_shineOn_4 : decode cX2_shineOn 4 = .ok (.istore 5, 2) := by decide +kernel
theorem dX2_shineOn_6 : decode cX2_shineOn 6 = .ok (.iload 5, 2) := by decide +kernel
theorem dX2_shineOn_8 : decode cX2_shineOn 8 = .ok (.aload_n 0, 1) := by decide +kernel
theorem dX2_shineOn_9 : decode cX2_shineOn 9 = .ok (.getfield 29, 3) := by decide +kernel
theorem dX2_shineOn_12 : decode cX2_shineOn 12 = .ok (.if_icmp .ge 32, 3) := by decide +kernel
theorem dX2_shineOn_15 : decode cX2_shineOn 15 = .ok (.aload_n 0, 1) := by decide +kernel
theorem dX2_shineOn_16 : decode cX2_shineOn 16 = .ok (.iload_n 1, 1) := by decide +kernel
theorem dX2_shineOn_17 : decode cX2_shineOn 17 = .ok (.iload 5, 2) := by decide +kernel
theorem dX2_shineOn_19 : decode cX2_shineOn 19 = .ok (.invokevirtual 44, 3) := by decide +kernel
theorem dX2_shineOn_22 : decode cX2_shineOn 22 = .ok (.iload_n 2, 1) := by decide +kernel
theorem dX2_shineOn_23 : decode cX2_shineOn 23 = .ok (.if_icmp .ne 15, 3) := by decide +kernel
theorem dX2_shineOn_26 : decode cX2_shineOn 26 = .ok (.iload 4, 2) := by decide +kernel
theorem dX2_shineOn_28 : decode cX2_shineOn 28 = .ok (.aload_n 0, 1) := by decide +kernel
theorem dX2_shineOn_29 : decode cX2_shineOn 29 = .ok (.iload 5, 2) := by decide +kernel
theorem dX2_shineOn_31 : decode cX2_shineOn 31 = .ok (.iload_n 3, 1) := by decide +kernel
theorem dX2_shineOn_32 : decode cX2_shineOn 32 = .ok (.invokevirtual 48, 3) := by decide +kernel
theorem dX2_shineOn_35 : decode cX2_shineOn 35 = .ok (.iadd, 1) := by decide +kernel
theorem dX2_shineOn_36 : decode cX2_shineOn 36 = .ok (.istore 4, 2) := by decide +kernel
theorem dX2_shineOn_38 : decode cX2_shineOn 38 = .ok (.iinc 5 1, 3) := by decide +kernel
theorem dX2_shineOn_41 : decode cX2_shineOn 41 = .ok (.goto (-35), 3) := by decide +kernel
theorem dX2_shineOn_44 : decode cX2_shineOn 44 = .ok (.iload 4, 2) := by decide +kernel
theorem dX2_shineOn_46 : decode cX2_shineOn 46 = .ok (.ireturn, 1) := by decide +kernel
set_option maxRecDepth 20000 in
theorem ggX2_shine_X2_powerOf : GoodIn wsX2_shine wsX2_powerOf := goodIn_r _ [5, 6, 7, 8, 9, 4, 10, 11, 20, 21, 22, 23] (by decide +kernel) (by decide +kernel)
set_option maxRecDepth 20000 in
theorem gX2_shine_X2_powerOf : GoodIn wsX2_shine (wsV RX2 51 RX2 yX2_powerOf wsX2_powerOf) := goodIn_app (goodIn_of _ (by decide +kernel)) ggX2_shine_X2_powerOf
set_option maxRecDepth 20000 in
theorem ggX2_shine_X2_gelOf : GoodIn wsX2_shine wsX2_gelOf := goodIn_r _ [15, 16, 7, 8, 9, 4, 10, 11, 20, 21, 22, 23] (by decide +kernel) (by decide +kernel)
set_option maxRecDepth 20000 in
theorem gX2_shine_X2_gelOf : GoodIn wsX2_shine (wsV RX2 55 RX2 yX2_gelOf wsX2_gelOf) := goodIn_app (goodIn_of _ (by decide +kernel)) ggX2_shine_X2_gelOf
set_option maxRecDepth 20000 in
theorem ggX2_shine_X2_shineOfKind : GoodIn wsX2_shine wsX2_shineOfKind := goodIn_r _ [19] (by decide +kernel) (by decide +kernel)
set_option maxRecDepth 20000 in
theorem gX2_shine_X2_shineOfKind : GoodIn wsX2_shine (va_wsS RX2 58 yX2_shineOfKind wsX2_shineOfKind) := goodIn_app (goodIn_of _ (by decide +kernel)) ggX2_shine_X2_shineOfKind
theorem dX2_shine_0 : decode cX2_shine 0 = .ok (.aload_n 0, 1) := by decide +kernel
theorem dX2_shine_1 : decode cX2_shine 1 = .ok (.iload_n 1, 1) := by decide +kernel
theorem dX2_shine_2 : decode cX2_shine 2 = .ok (.invokevirtual 51, 3) := by decide +kernel
theorem dX2_shine_5 : decode cX2_shine 5 = .ok (.aload_n 0, 1) := by decide +kernel
theorem dX2_shine_6 : decode cX2_shine 6 = .ok (.iload_n 1, 1) := by decide +kernel
theorem dX2_shine_7 : decode cX2_shine 7 = .ok (.invokevirtual 55, 3) := by decide +kernel
theorem dX2_shine_10 : decode cX2_shine 10 = .ok (.iload_n 2, 1) := by decide +kernel
theorem dX2_shine_11 : decode cX2_shine 11 = .ok (.invokestatic 58, 3) := by decide +kernel
theorem dX2_shine_14 : decode cX2_shine 14 = .ok (.ireturn, 1) := by decide +kernel
theorem dX2_shineOfKind_0 : decode cX2_shineOfKind 0 = .ok (.iload_n 0, 1) := by decide +kernel
theorem dX2_shineOfKind_1 : decode cX2_shineOfKind 1 = .ok (.iload_n 2, 1) := by decide +kernel
theorem dX2_shineOfKind_2 : decode cX2_shineOfKind 2 = .ok (.imul, 1) := by decide +kernel
theorem dX2_shineOfKind_3 : decode cX2_shineOfKind 3 = .ok (.bipush 100, 2) := by decide +kernel
theorem dX2_shineOfKind_5 : decode cX2_shineOfKind 5 = .ok (.iconst 5, 1) := by decide +kernel
theorem dX2_shineOfKind_6 : decode cX2_shineOfKind 6 = .ok (.iload_n 1, 1) := by decide +kernel
theorem dX2_shineOfKind_7 : decode cX2_shineOfKind 7 = .ok (.imul, 1) := by decide +kernel
theorem dX2_shineOfKind_8 : decode cX2_shineOfKind 8 = .ok (.isub, 1) := by decide +kernel
theorem dX2_shineOfKind_9 : decode cX2_shineOfKind 9 = .ok (.imul, 1) := by decide +kernel
theorem dX2_shineOfKind_10 : decode cX2_shineOfKind 10 = .ok (.bipush 100, 2) := by decide +kernel
theorem dX2_shineOfKind_12 : decode cX2_shineOfKind 12 = .ok (.idiv, 1) := by decide +kernel
theorem dX2_shineOfKind_13 : decode cX2_shineOfKind 13 = .ok (.ireturn, 1) := by decide +kernel
set_option maxRecDepth 20000 in
theorem ggX3_init_X2_init : GoodIn wsX3_init wsX2_init := goodIn_r _ [23, 24, 2, 3, 19, 25, 26, 27, 28, 29, 30, 31, 32, 51, 52, 53, 54] (by decide +kernel) (by decide +kernel)
set_option maxRecDepth 20000 in
theorem gX3_init_X2_init : GoodIn wsX3_init (wsX2_init) := ggX3_init_X2_init
set_option maxRecDepth 20000 in
theorem ggX3_init_X0_init : GoodIn wsX3_init wsX0_init := goodIn_r _ [35, 36, 2, 3, 19, 37, 38, 17, 39, 40, 41, 42, 43, 44, 45, 30, 31, 32, 62, 63, 64, 65, 66, 67, 68, 69, 70] (by decide +kernel) (by decide +kernel)
set_option maxRecDepth 20000 in
theorem gX3_init_X0_init : GoodIn wsX3_init (wsX0_init) := ggX3_init_X0_init
set_option maxRecDepth 20000 in
theorem ggX3_init_X1_init : GoodIn wsX3_init wsX1_init := goodIn_r _ [47, 48, 2, 3, 49, 19, 50, 71, 72, 73] (by decide +kernel) (by decide +kernel)
set_option maxRecDepth 20000 in
theorem gX3_init_X1_init_n28 : GoodIn wsX3_init (wsX1_init) := ggX3_init_X1_init
theorem dX3_init_0 : decode cX3_init 0 = .ok (.aload_n 0, 1) := by decide +kernel
theorem dX3_init_1 : decode cX3_init 1 = .ok (.invokespecial 1, 3) := by decide +kernel
theorem dX3_init_4 : decode cX3_init 4 = .ok (.aload_n 0, 1) := by decide +kernel
theorem dX3_init_5 : decode cX3_init 5 = .ok (.new 7, 3) := by decide +kernel
theorem dX3_init_8 : decode cX3_init 8 = .ok (.dup, 1) := by decide +kernel
theorem dX3_init_9 : decode cX3_init 9 = .ok (.invokespecial 9, 3) := by decide +kernel
theorem dX3_init_12 : decode cX3_init 12 = .ok (.putfield 10, 3) := by decide +kernel
theorem dX3_init_15 : decode cX3_init 15 = .ok (.aload_n 0, 1) := by decide +kernel
theorem dX3_init_16 : decode cX3_init 16 = .ok (.new 16, 3) := by decide +kernel
theorem dX3_init_19 : decode cX3_init 19 = .ok (.dup, 1) := by decide +kernel
theorem dX3_init_20 : decode cX3_init 20 = .ok (.invokespecial 18, 3) := by decide +kernel
theorem dX3_init_23 : decode cX3_init 23 = .ok (.putfield 19, 3) := by decide +kernel
theorem dX3_init_26 : decode cX3_init 26 = .ok (.aload_n 0, 1) := by decide +kernel
theorem dX3_init_27 : decode cX3_init 27 = .ok (.new 16, 3) := by decide +kernel
theorem dX3_init_30 : decode cX3_init 30 = .ok (.dup, 1) := by decide +kernel
theorem dX3_init_31 : decode cX3_init 31 = .ok (.invokespecial 18, 3) := by decide +kernel
theorem dX3_init_34 : decode cX3_init 34 = .ok (.putfield 23, 3) := by decide +kernel
theorem dX3_init_37 : decode cX3_init 37 = .ok (.aload_n 0, 1) := by decide +kernel
theorem dX3_init_38 : decode cX3_init 38 = .ok (.new 26, 3) := by decide +kernel
theorem dX3_init_41 : decode cX3_init 41 = .ok (.dup, 1) := by decide +kernel
theorem dX3_init_42 : decode cX3_init 42 = .ok (.invokespecial 28, 3) := by decide +kernel
theorem dX3_init_45 : decode cX3_init 45 = .ok (.putfield 29, 3) := by decide +kernel
theorem dX3_init_48 : decode cX3_init 48 = .ok (.aload_n 0, 1) := by decide +kernel
theorem dX3_init_49 : decode cX3_init 49 = .ok (.bipush 12, 2) := by decide +kernel
theorem dX3_init_51 : decode cX3_init 51 = .ok (.newarray .boolean, 2) := by decide +kernel
theorem dX3_init_53 : decode cX3_init 53 = .ok (.putfield 33, 3) := by decide +kernel
theorem dX3_init_56 : decode cX3_init 56 = .ok (.aload_n 0, 1) := by decide +kernel
theorem dX3_init_57 : decode cX3_init 57 = .ok (.bipush 12, 2) := by decide +kernel
theorem dX3_init_59 : decode cX3_init 59 = .ok (.newarray .int, 2) := by decide +kernel
theorem dX3_init_61 : decode cX3_init 61 = .ok (.putfield 37, 3) := by decide +kernel
theorem dX3_init_64 : decode cX3_init 64 = .ok (.return_, 1) := by decide +kernel
set_option maxRecDepth 20000 in
theorem ggX3_addLamp_X3_needLampKind : GoodIn wsX3_addLamp wsX3_needLampKind := goodIn_ca (goodIn_r _ [7, 8, 9] (by decide +kernel) (by decide +kernel)) (goodIn_sub (fun _ h => List.mem_cons_of_mem _ (List.mem_append_right _ h)) (by decide +kernel))
set_option maxRecDepth 20000 in
theorem gX3_addLamp_X3_needLampKind : GoodIn wsX3_addLamp (va_wsS RX3 41 yX3_needLampKind wsX3_needLampKind) := goodIn_app (goodIn_of _ (by decide +kernel)) ggX3_addLamp_X3_needLampKind
set_option maxRecDepth 20000 in
theorem ggX3_addLamp_X2_isFull : GoodIn wsX3_addLamp wsX2_isFull := goodIn_r _ [14, 15, 37, 38, 39, 40] (by decide +kernel) (by decide +kernel)
set_option maxRecDepth 20000 in
theorem gX3_addLamp_X2_isFull : GoodIn wsX3_addLamp (wsV RX3 45 RX2 yX2_isFull wsX2_isFull) := goodIn_app (goodIn_of _ (by decide +kernel)) ggX3_addLamp_X2_isFull
set_option maxRecDepth 20000 in
theorem ggX3_addLamp_X2_add : GoodIn wsX3_addLamp wsX2_add := goodIn_r _ [19, 15, 20, 21, 22, 13, 23, 24, 25, 26, 27, 28, 29, 37, 38, 39, 40] (by decide +kernel) (by decide +kernel)
set_option maxRecDepth 20000 in
theorem gX3_addLamp_X2_add : GoodIn wsX3_addLamp (wsV RX3 56 RX2 yX2_add wsX2_add) := goodIn_app (goodIn_of _ (by decide +kernel)) ggX3_addLamp_X2_add
theorem dX3_addLamp_0 : decode cX3_addLamp 0 = .ok (.iload_n 1, 1) := by decide +kernel
theorem dX3_addLamp_1 : decode cX3_addLamp 1 = .ok (.iload_n 2, 1) := by decide +kernel
theorem dX3_addLamp_2 : decode cX3_addLamp 2 = .ok (.invokestatic 41, 3) := by decide +kernel
theorem dX3_addLamp_5 : decode cX3_addLamp 5 = .ok (.aload_n 0, 1) := by decide +kernel
theorem dX3_addLamp_6 : decode cX3_addLamp 6 = .ok (.getfield 10, 3) := by decide +kernel
theorem dX3_addLamp_9 : decode cX3_addLamp 9 = .ok (.invokevirtual 45, 3) := by decide +kernel
theorem dX3_addLamp_12 : decode cX3_addLamp 12 = .ok (.ifCond .eq 13, 3) := by decide +kernel
theorem dX3_addLamp_15 : decode cX3_addLamp 15 = .ok (.new 49, 3) := by decide +kernel
theorem dX3_addLamp_18 : decode cX3_addLamp 18 = .ok (.dup, 1) := by decide +kernel
theorem dX3_addLamp_19 : decode cX3_addLamp 19 = .ok (.ldc 51, 2) := by decide +kernel
theorem dX3_addLamp_21 : decode cX3_addLamp 21 = .ok (.invokespecial 53, 3) := by decide +kernel
theorem dX3_addLamp_24 : decode cX3_addLamp 24 = .ok (.athrow, 1) := by decide +kernel
theorem dX3_addLamp_25 : decode cX3_addLamp 25 = .ok (.aload_n 0, 1) := by decide +kernel
theorem dX3_addLamp_26 : decode cX3_addLamp 26 = .ok (.getfield 10, 3) := by decide +kernel
theorem dX3_addLamp_29 : decode cX3_addLamp 29 = .ok (.iload_n 1, 1) := by decide +kernel
theorem dX3_addLamp_30 : decode cX3_addLamp 30 = .ok (.iload_n 2, 1) := by decide +kernel
theorem dX3_addLamp_31 : decode cX3_addLamp 31 = .ok (.invokevirtual 56, 3) := by decide +kernel
theorem dX3_addLamp_34 : decode cX3_addLamp 34 = .ok (.ireturn, 1) := by decide +kernel
set_option maxRecDepth 20000 in
theorem ggX3_swap_X3_needLamp : GoodIn wsX3_swap wsX3_needLamp := goodIn_ca (goodIn_r _ [7, 8, 9, 2, 10, 11, 12, 13, 14, 15, 55, 56, 57, 58, 59, 60, 61, 62, 63, 64, 65] (by decide +kernel) (by decide +kernel)) (goodIn_sub (fun _ h => List.mem_cons_of_mem _ (List.mem_append_left _ (List.mem_append_right _ h))) (by decide +kernel))
set_option maxRecDepth 20000 in
theorem gX3_swap_X3_needLamp : GoodIn wsX3_swap (wsV RX3 60 RX3 yX3_needLamp wsX3_needLamp) := goodIn_app (goodIn_of _ (by decide +kernel)) ggX3_swap_X3_needLamp
set_option maxRecDepth 20000 in
theorem ggX3_swap_X3_needLampKind : GoodIn wsX3_swap wsX3_needLampKind := goodIn_ca (goodIn_r _ [18, 19, 20] (by decide +kernel) (by decide +kernel)) (goodIn_sub (fun _ h => List.mem_cons_of_mem _ (List.mem_append_right _ h)) (by decide +kernel))
set_option maxRecDepth 20000 in
theorem gX3_swap_X3_needLampKind : GoodIn wsX3_swap (va_wsS RX3 41 yX3_needLampKind wsX3_needLampKind) := goodIn_app (goodIn_of _ (by decide +kernel)) ggX3_swap_X3_needLampKind
set_option maxRecDepth 20000 in
theorem ggX3_swap_X2_powerOf : GoodIn wsX3_swap wsX2_powerOf := goodIn_r _ [24, 25, 26, 11, 12, 13, 14, 15, 62, 63, 64, 65] (by decide +kernel) (by decide +kernel)
set_option maxRecDepth 20000 in
theorem gX3_swap_X2_powerOf : GoodIn wsX3_swap (wsV RX3 64 RX2 yX2_powerOf wsX2_powerOf) := goodIn_app (goodIn_of _ (by decide +kernel)) ggX3_swap_X2_powerOf
set_option maxRecDepth 20000 in
theorem ggX3_swap_X2_gelOf : GoodIn wsX3_swap wsX2_gelOf := goodIn_r _ [30, 31, 26, 11, 12, 13, 14, 15, 62, 63, 64, 65] (by decide +kernel) (by decide +kernel)
set_option maxRecDepth 20000 in
theorem gX3_swap_X2_gelOf : GoodIn wsX3_swap (wsV RX3 68 RX2 yX2_gelOf wsX2_gelOf) := goodIn_app (goodIn_of _ (by decide +kernel)) ggX3_swap_X2_gelOf
set_option maxRecDepth 20000 in
theorem ggX3_swap_X1_note : GoodIn wsX3_swap wsX1_note := goodIn_r _ [36, 37, 38, 39, 40, 41, 42, 43, 44, 45, 35, 46, 47, 48, 49, 50, 66, 67, 68] (by decide +kernel) (by decide +kernel)
set_option maxRecDepth 20000 in
theorem gX3_swap_X1_note : GoodIn wsX3_swap (wsV RX3 71 RX1 yX1_note wsX1_note) := goodIn_app (goodIn_of _ (by decide +kernel)) ggX3_swap_X1_note
set_option maxRecDepth 20000 in
theorem ggX3_swap_X2_setKind : GoodIn wsX3_swap wsX2_setKind := goodIn_r _ [54, 25, 31, 26, 11, 12, 13, 14, 15, 62, 63, 64, 65] (by decide +kernel) (by decide +kernel)
set_option maxRecDepth 20000 in
theorem gX3_swap_X2_setKind : GoodIn wsX3_swap (wsV RX3 75 RX2 yX2_setKind wsX2_setKind) := goodIn_app (goodIn_of _ (by decide +kernel)) ggX3_swap_X2_setKind
theorem dX3_swap_0 : decode cX3_swap 0 = .ok (.aload_n 0, 1) := by decide +kernel
theorem dX3_swap_1 : decode cX3_swap 1 = .ok (.iload_n 1, 1) := by decide +kernel
theorem dX3_swap_2 : decode cX3_swap 2 = .ok (.invokevirtual 60, 3) := by decide +kernel
theorem dX3_swap_5 : decode cX3_swap 5 = .ok (.iload_n 2, 1) := by decide +kernel
theorem dX3_swap_6 : decode cX3_swap 6 = .ok (.iload_n 3, 1) := by decide +kernel
theorem dX3_swap_7 : decode cX3_swap 7 = .ok (.invokestatic 41, 3) := by decide +kernel
theorem dX3_swap_10 : decode cX3_swap 10 = .ok (.aload_n 0, 1) := by decide +kernel
theorem dX3_swap_11 : decode cX3_swap 11 = .ok (.getfield 29, 3) := by decide +kernel
theorem dX3_swap_14 : decode cX3_swap 14 = .ok (.iconst 0, 1) := by decide +kernel
theorem dX3_swap_15 : decode cX3_swap 15 = .ok (.iload_n 1, 1) := by decide +kernel
theorem dX3_swap_16 : decode cX3_swap 16 = .ok (.aload_n 0, 1) := by decide +kernel
theorem dX3_swap_17 : decode cX3_swap 17 = .ok (.getfield 10, 3) := by decide +kernel
theorem dX3_swap_20 : decode cX3_swap 20 = .ok (.iload_n 1, 1) := by decide +kernel
theorem dX3_swap_21 : decode cX3_swap 21 = .ok (.invokevirtual 64, 3) := by decide +kernel
theorem dX3_swap_24 : decode cX3_swap 24 = .ok (.aload_n 0, 1) := by decide +kernel
theorem dX3_swap_25 : decode cX3_swap 25 = .ok (.getfield 10, 3) := by decide +kernel
theorem dX3_swap_28 : decode cX3_swap 28 = .ok (.iload_n 1, 1) := by decide +kernel
theorem dX3_swap_29 : decode cX3_swap 29 = .ok (.invokevirtual 68, 3) := by decide +kernel
theorem dX3_swap_32 : decode cX3_swap 32 = .ok (.iconst 0, 1) := by decide +kernel
theorem dX3_swap_33 : decode cX3_swap 33 = .ok (.invokevirtual 71, 3) := by decide +kernel
theorem dX3_swap_36 : decode cX3_swap 36 = .ok (.aload_n 0, 1) := by decide +kernel
theorem dX3_swap_37 : decode cX3_swap 37 = .ok (.getfield 10, 3) := by decide +kernel
theorem dX3_swap_40 : decode cX3_swap 40 = .ok (.iload_n 1, 1) := by decide +kernel
theorem dX3_swap_41 : decode cX3_swap 41 = .ok (.iload_n 2, 1) := by decide +kernel
theorem dX3_swap_42 : decode cX3_swap 42 = .ok (.iload_n 3, 1) := by decide +kernel
theorem dX3_swap_43 : decode cX3_swap 43 = .ok (.invokevirtual 75, 3) := by decide +kernel
theorem dX3_swap_46 : decode cX3_swap 46 = .ok (.return_, 1) := by decide +kernel
set_option maxRecDepth 20000 in
theorem ggX3_hang_X3_needLamp : GoodIn wsX3_hang wsX3_needLamp := goodIn_ca (goodIn_r _ [7, 8, 9, 1, 10, 11, 12, 13, 14, 15, 62, 63, 64, 65, 66, 67, 68, 69, 70, 71, 72] (by decide +kernel) (by decide +kernel)) (goodIn_sub (fun _ h => List.mem_cons_of_mem _ (List.mem_append_left _ (List.mem_append_right _ h))) (by decide +kernel))
set_option maxRecDepth 20000 in
theorem gX3_hang_X3_needLamp : GoodIn wsX3_hang (wsV RX3 60 RX3 yX3_needLamp wsX3_needLamp) := goodIn_app (goodIn_of _ (by decide +kernel)) ggX3_hang_X3_needLamp
set_option maxRecDepth 20000 in
theorem ggX3_hang_X3_needNight : GoodIn wsX3_hang wsX3_needNight := goodIn_ca (goodIn_r _ [18, 19, 20, 21, 22, 6, 23] (by decide +kernel) (by decide +kernel)) (goodIn_sub (fun _ h => List.mem_cons_of_mem _ (List.mem_append_right _ h)) (by decide +kernel))
set_option maxRecDepth 20000 in
theorem gX3_hang_X3_needNight : GoodIn wsX3_hang (va_wsS RX3 79 yX3_needNight wsX3_needNight) := goodIn_app (goodIn_of _ (by decide +kernel)) ggX3_hang_X3_needNight
set_option maxRecDepth 20000 in
theorem ggX3_hang_X3_needChannelOrNone : GoodIn wsX3_hang wsX3_needChannelOrNone := goodIn_ca (goodIn_r _ [26, 27, 28, 6, 29, 19, 20, 30, 31, 32] (by decide +kernel) (by decide +kernel)) (goodIn_sub (fun _ h => List.mem_cons_of_mem _ (List.mem_append_right _ h)) (by decide +kernel))
set_option maxRecDepth 20000 in
theorem gX3_hang_X3_needChannelOrNone : GoodIn wsX3_hang (va_wsS RX3 82 yX3_needChannelOrNone wsX3_needChannelOrNone) := goodIn_app (goodIn_of _ (by decide +kernel)) ggX3_hang_X3_needChannelOrNone
set_option maxRecDepth 20000 in
theorem ggX3_hang_X2_channelOf : GoodIn wsX3_hang wsX2_channelOf := goodIn_r _ [36, 37, 22, 6, 23, 38, 11, 12, 13, 14, 15, 69, 70, 71, 72] (by decide +kernel) (by decide +kernel)
set_option maxRecDepth 20000 in
theorem gX3_hang_X2_channelOf : GoodIn wsX3_hang (wsV RX3 85 RX2 yX2_channelOf wsX2_channelOf) := goodIn_app (goodIn_of _ (by decide +kernel)) ggX3_hang_X2_channelOf
set_option maxRecDepth 20000 in
theorem ggX3_hang_X1_note : GoodIn wsX3_hang wsX1_note := goodIn_r _ [43, 44, 45, 46, 47, 48, 49, 50, 51, 52, 42, 53, 54, 55, 56, 57, 73, 74, 75] (by decide +kernel) (by decide +kernel)
set_option maxRecDepth 20000 in
theorem gX3_hang_X1_note : GoodIn wsX3_hang (wsV RX3 71 RX1 yX1_note wsX1_note) := goodIn_app (goodIn_of _ (by decide +kernel)) ggX3_hang_X1_note
set_option maxRecDepth 20000 in
theorem ggX3_hang_X2_setChannel : GoodIn wsX3_hang wsX2_setChannel := goodIn_r _ [61, 37, 22, 6, 23, 38, 11, 12, 13, 14, 15, 69, 70, 71, 72] (by decide +kernel) (by decide +kernel)
set_option maxRecDepth 20000 in
theorem gX3_hang_X2_setChannel : GoodIn wsX3_hang (wsV RX3 88 RX2 yX2_setChannel wsX2_setChannel) := goodIn_app (goodIn_of _ (by decide +kernel)) ggX3_hang_X2_setChannel
theorem dX3_hang_0 : decode cX3_hang 0 = .ok (.aload_n 0, 1) := by decide +kernel
theorem dX3_hang_1 : decode cX3_hang 1 = .ok (.iload_n 2, 1) := by decide +kernel
theorem dX3_hang_2 : decode cX3_hang 2 = .ok (.invokevirtual 60, 3) := by decide +kernel
theorem dX3_hang_5 : decode cX3_hang 5 = .ok (.iload_n 1, 1) := by decide +kernel
theorem dX3_hang_6 : decode cX3_hang 6 = .ok (.invokestatic 79, 3) := by decide +kernel
theorem dX3_hang_9 : decode cX3_hang 9 = .ok (.iload_n 3, 1) := by decide +kernel
theorem dX3_hang_10 : decode cX3_hang 10 = .ok (.invokestatic 82, 3) := by decide +kernel
theorem dX3_hang_13 : decode cX3_hang 13 = .ok (.aload_n 0, 1) := by decide +kernel
theorem dX3_hang_14 : decode cX3_hang 14 = .ok (.getfield 10, 3) := by decide +kernel
theorem dX3_hang_17 : decode cX3_hang 17 = .ok (.iload_n 1, 1) := by decide +kernel
theorem dX3_hang_18 : decode cX3_hang 18 = .ok (.iload_n 2, 1) := by decide +kernel
theorem dX3_hang_19 : decode cX3_hang 19 = .ok (.invokevirtual 85, 3) := by decide +kernel
theorem dX3_hang_22 : decode cX3_hang 22 = .ok (.istore 4, 2) := by decide +kernel
theorem dX3_hang_24 : decode cX3_hang 24 = .ok (.aload_n 0, 1) := by decide +kernel
theorem dX3_hang_25 : decode cX3_hang 25 = .ok (.getfield 29, 3) := by decide +kernel
theorem dX3_hang_28 : decode cX3_hang 28 = .ok (.iconst 1, 1) := by decide +kernel
theorem dX3_hang_29 : decode cX3_hang 29 = .ok (.iload_n 1, 1) := by decide +kernel
theorem dX3_hang_30 : decode cX3_hang 30 = .ok (.iload_n 2, 1) := by decide +kernel
theorem dX3_hang_31 : decode cX3_hang 31 = .ok (.iload 4, 2) := by decide +kernel
theorem dX3_hang_33 : decode cX3_hang 33 = .ok (.iconst 0, 1) := by decide +kernel
theorem dX3_hang_34 : decode cX3_hang 34 = .ok (.invokevirtual 71, 3) := by decide +kernel
theorem dX3_hang_37 : decode cX3_hang 37 = .ok (.aload_n 0, 1) := by decide +kernel
theorem dX3_hang_38 : decode cX3_hang 38 = .ok (.getfield 10, 3) := by decide +kernel
theorem dX3_hang_41 : decode cX3_hang 41 = .ok (.iload_n 1, 1) := by decide +kernel
theorem dX3_hang_42 : decode cX3_hang 42 = .ok (.iload_n 2, 1) := by decide +kernel
theorem dX3_hang_43 : decode cX3_hang 43 = .ok (.iload_n 3, 1) := by decide +kernel
theorem dX3_hang_44 : decode cX3_hang 44 = .ok (.invokevirtual 88, 3) := by decide +kernel
theorem dX3_hang_47 : decode cX3_hang 47 = .ok (.iload 4, 2) := by decide +kernel
theorem dX3_hang_49 : decode cX3_hang 49 = .ok (.ireturn, 1) := by decide +kernel
set_option maxRecDepth 20000 in
theorem ggX3_setNight_X3_needNight : GoodIn wsX3_setNight wsX3_needNight := goodIn_ca (goodIn_r _ [5, 6, 7, 8, 9, 4, 10] (by decide +kernel) (by decide +kernel)) (goodIn_sub (fun _ h => List.mem_cons_of_mem _ (List.mem_append_right _ h)) (by decide +kernel))
set_option maxRecDepth 20000 in
theorem gX3_setNight_X3_needNight : GoodIn wsX3_setNight (va_wsS RX3 79 yX3_needNight wsX3_needNight) := goodIn_app (goodIn_of _ (by decide +kernel)) ggX3_setNight_X3_needNight
theorem dX3_setNight_0 : decode cX3_setNight 0 = .ok (.iload_n 1, 1) := by decide +kernel
theorem dX3_setNight_1 : decode cX3_setNight 1 = .ok (.invokestatic 79, 3) := by decide +kernel
theorem dX3_setNight_4 : decode cX3_setNight 4 = .ok (.aload_n 0, 1) := by decide +kernel
theorem dX3_setNight_5 : decode cX3_setNight 5 = .ok (.getfield 91, 3) := by decide +kernel
theorem dX3_setNight_8 : decode cX3_setNight 8 = .ok (.istore_n 2, 1) := by decide +kernel
theorem dX3_setNight_9 : decode cX3_setNight 9 = .ok (.aload_n 0, 1) := by decide +kernel
theorem dX3_setNight_10 : decode cX3_setNight 10 = .ok (.iload_n 1, 1) := by decide +kernel
theorem dX3_setNight_11 : decode cX3_setNight 11 = .ok (.putfield 91, 3) := by decide +kernel
theorem dX3_setNight_14 : decode cX3_setNight 14 = .ok (.iload_n 2, 1) := by decide +kernel
theorem dX3_setNight_15 : decode cX3_setNight 15 = .ok (.ireturn, 1) := by decide +kernel
set_option maxRecDepth 20000 in
theorem ggX3_setLatest_X3_needChannel : GoodIn wsX3_setLatest wsX3_needChannel := goodIn_ca (goodIn_r _ [5, 6, 7, 8, 9, 4, 10] (by decide +kernel) (by decide +kernel)) (goodIn_sub (fun _ h => List.mem_cons_of_mem _ (List.mem_append_right _ h)) (by decide +kernel))
set_option maxRecDepth 20000 in
theorem gX3_setLatest_X3_needChannel : GoodIn wsX3_setLatest (va_wsS RX3 95 yX3_needChannel wsX3_needChannel) := goodIn_app (goodIn_of _ (by decide +kernel)) ggX3_setLatest_X3_needChannel
theorem dX3_setLatest_0 : decode cX3_setLatest 0 = .ok (.iload_n 1, 1) := by decide +kernel
theorem dX3_setLatest_1 : decode cX3_setLatest 1 = .ok (.invokestatic 95, 3) := by decide +kernel
theorem dX3_setLatest_4 : decode cX3_setLatest 4 = .ok (.aload_n 0, 1) := by decide +kernel
theorem dX3_setLatest_5 : decode cX3_setLatest 5 = .ok (.getfield 33, 3) := by decide +kernel
theorem dX3_setLatest_8 : decode cX3_setLatest 8 = .ok (.iload_n 1, 1) := by decide +kernel
theorem dX3_setLatest_9 : decode cX3_setLatest 9 = .ok (.baload, 1) := by decide +kernel
theorem dX3_setLatest_10 : decode cX3_setLatest 10 = .ok (.istore_n 3, 1) := by decide +kernel
theorem dX3_setLatest_11 : decode cX3_setLatest 11 = .ok (.aload_n 0, 1) := by decide +kernel
theorem dX3_setLatest_12 : decode cX3_setLatest 12 = .ok (.getfield 33, 3) := by decide +kernel
theorem dX3_setLatest_15 : decode cX3_setLatest 15 = .ok (.iload_n 1, 1) := by decide +kernel
theorem dX3_setLatest_16 : decode cX3_setLatest 16 = .ok (.iload_n 2, 1) := by decide +kernel
theorem dX3_setLatest_17 : decode cX3_setLatest 17 = .ok (.bastore, 1) := by decide +kernel
theorem dX3_setLatest_18 : decode cX3_setLatest 18 = .ok (.iload_n 3, 1) := by decide +kernel
theorem dX3_setLatest_19 : decode cX3_setLatest 19 = .ok (.ireturn, 1) := by decide +kernel
set_option maxRecDepth 20000 in
theorem ggX3_addCue_X3_needList : GoodIn wsX3_addCue wsX3_needList := goodIn_ca (goodIn_r _ [6, 7, 8] (by decide +kernel) (by decide +kernel)) (goodIn_sub (fun _ h => List.mem_cons_of_mem _ (List.mem_append_right _ h)) (by decide +kernel))
set_option maxRecDepth 20000 in
theorem gX3_addCue_X3_needList : GoodIn wsX3_addCue (va_wsS RX3 98 yX3_needList wsX3_needList) := goodIn_app (goodIn_of _ (by decide +kernel)) ggX3_addCue_X3_needList
set_option maxRecDepth 20000 in
theorem ggX3_addCue_X3_needTenths : GoodIn wsX3_addCue wsX3_needTenths := goodIn_ca (goodIn_r _ [11, 7, 8] (by decide +kernel) (by decide +kernel)) (goodIn_sub (fun _ h => List.mem_cons_of_mem _ (List.mem_append_right _ h)) (by decide +kernel))
set_option maxRecDepth 20000 in
theorem gX3_addCue_X3_needTenths : GoodIn wsX3_addCue (va_wsS RX3 101 yX3_needTenths wsX3_needTenths) := goodIn_app (goodIn_of _ (by decide +kernel)) ggX3_addCue_X3_needTenths
set_option maxRecDepth 20000 in
theorem ggX3_addCue_X3_cuesOf : GoodIn wsX3_addCue wsX3_cuesOf := goodIn_r _ [15, 16, 17, 31, 32, 33, 34, 35, 36, 37] (by decide +kernel) (by decide +kernel)
set_option maxRecDepth 20000 in
theorem gX3_addCue_X3_cuesOf : GoodIn wsX3_addCue (wsV RX3 104 RX3 yX3_cuesOf wsX3_cuesOf) := goodIn_app (goodIn_of _ (by decide +kernel)) ggX3_addCue_X3_cuesOf
set_option maxRecDepth 20000 in
theorem ggX3_addCue_X0_isFull : GoodIn wsX3_addCue wsX0_isFull := goodIn_r _ [22, 23, 38, 39, 40, 41, 42, 43, 44, 45, 46] (by decide +kernel) (by decide +kernel)
set_option maxRecDepth 20000 in
theorem gX3_addCue_X0_isFull : GoodIn wsX3_addCue (wsV RX3 108 RX0 yX0_isFull wsX0_isFull) := goodIn_app (goodIn_of _ (by decide +kernel)) ggX3_addCue_X0_isFull
set_option maxRecDepth 20000 in
theorem ggX3_addCue_X0_add : GoodIn wsX3_addCue wsX0_add := goodIn_r _ [27, 23, 28, 29, 30, 38, 39, 40, 41, 42, 43, 44, 45, 46] (by decide +kernel) (by decide +kernel)
set_option maxRecDepth 20000 in
theorem gX3_addCue_X0_add : GoodIn wsX3_addCue (wsV RX3 111 RX0 yX0_add wsX0_add) := goodIn_app (goodIn_of _ (by decide +kernel)) ggX3_addCue_X0_add
theorem dX3_addCue_0 : decode cX3_addCue 0 = .ok (.iload_n 1, 1) := by decide +kernel
theorem dX3_addCue_1 : decode cX3_addCue 1 = .ok (.invokestatic 98, 3) := by decide +kernel
theorem dX3_addCue_4 : decode cX3_addCue 4 = .ok (.iload_n 2, 1) := by decide +kernel
theorem dX3_addCue_5 : decode cX3_addCue 5 = .ok (.invokestatic 101, 3) := by decide +kernel
theorem dX3_addCue_8 : decode cX3_addCue 8 = .ok (.iload_n 3, 1) := by decide +kernel
theorem dX3_addCue_9 : decode cX3_addCue 9 = .ok (.invokestatic 101, 3) := by decide +kernel
theorem dX3_addCue_12 : decode cX3_addCue 12 = .ok (.aload_n 0, 1) := by decide +kernel
theorem dX3_addCue_13 : decode cX3_addCue 13 = .ok (.iload_n 1, 1) := by decide +kernel
theorem dX3_addCue_14 : decode cX3_addCue 14 = .ok (.invokevirtual 104, 3) := by decide +kernel
theorem dX3_addCue_17 : decode cX3_addCue 17 = .ok (.astore 5, 2) := by decide +kernel
theorem dX3_addCue_19 : decode cX3_addCue 19 = .ok (.aload 5, 2) := by decide +kernel
theorem dX3_addCue_21 : decode cX3_addCue 21 = .ok (.invokevirtual 108, 3) := by decide +kernel
theorem dX3_addCue_24 : decode cX3_addCue 24 = .ok (.ifCond .eq 13, 3) := by decide +kernel
theorem dX3_addCue_27 : decode cX3_addCue 27 = .ok (.new 49, 3) := by decide +kernel
theorem dX3_addCue_30 : decode cX3_addCue 30 = .ok (.dup, 1) := by decide +kernel
theorem dX3_addCue_31 : decode cX3_addCue 31 = .ok (.ldc 109, 2) := by decide +kernel
theorem dX3_addCue_33 : decode cX3_addCue 33 = .ok (.invokespecial 53, 3) := by decide +kernel
theorem dX3_addCue_36 : decode cX3_addCue 36 = .ok (.athrow, 1) := by decide +kernel
theorem dX3_addCue_37 : decode cX3_addCue 37 = .ok (.aload 5, 2) := by decide +kernel
theorem dX3_addCue_39 : decode cX3_addCue 39 = .ok (.iload_n 2, 1) := by decide +kernel
theorem dX3_addCue_40 : decode cX3_addCue 40 = .ok (.iload_n 3, 1) := by decide +kernel
theorem dX3_addCue_41 : decode cX3_addCue 41 = .ok (.iload 4, 2) := by decide +kernel
theorem dX3_addCue_43 : decode cX3_addCue 43 = .ok (.invokevirtual 111, 3) := by decide +kernel
theorem dX3_addCue_46 : decode cX3_addCue 46 = .ok (.ireturn, 1) := by decide +kernel
set_option maxRecDepth 20000 in
theorem ggX3_setLevel_X3_needList : GoodIn wsX3_setLevel wsX3_needList := goodIn_ca (goodIn_r _ [5, 6, 7] (by decide +kernel) (by decide +kernel)) (goodIn_sub (fun _ h => List.mem_cons_of_mem _ (List.mem_append_left _ (List.mem_append_right _ h))) (by decide +kernel))
set_option maxRecDepth 20000 in
theorem gX3_setLevel_X3_needList : GoodIn wsX3_setLevel (va_wsS RX3 98 yX3_needList wsX3_needList) := goodIn_app (goodIn_of _ (by decide +kernel)) ggX3_setLevel_X3_needList
set_option maxRecDepth 20000 in
theorem ggX3_setLevel_X3_needChannel : GoodIn wsX3_setLevel wsX3_needChannel := goodIn_ca (goodIn_r _ [10, 6, 7, 11, 12, 4, 13] (by decide +kernel) (by decide +kernel)) (goodIn_sub (fun _ h => List.mem_cons_of_mem _ (List.mem_append_left _ (List.mem_append_right _ h))) (by decide +kernel))
set_option maxRecDepth 20000 in
theorem gX3_setLevel_X3_needChannel : GoodIn wsX3_setLevel (va_wsS RX3 95 yX3_needChannel wsX3_needChannel) := goodIn_app (goodIn_of _ (by decide +kernel)) ggX3_setLevel_X3_needChannel
set_option maxRecDepth 20000 in
theorem ggX3_setLevel_X3_needLevelOrNone : GoodIn wsX3_setLevel wsX3_needLevelOrNone := goodIn_ca (goodIn_r _ [16, 6, 7] (by decide +kernel) (by decide +kernel)) (goodIn_sub (fun _ h => List.mem_cons_of_mem _ (List.mem_append_left _ (List.mem_append_right _ h))) (by decide +kernel))
set_option maxRecDepth 20000 in
theorem gX3_setLevel_X3_needLevelOrNone : GoodIn wsX3_setLevel (va_wsS RX3 114 yX3_needLevelOrNone wsX3_needLevelOrNone) := goodIn_app (goodIn_of _ (by decide +kernel)) ggX3_setLevel_X3_needLevelOrNone
set_option maxRecDepth 20000 in
theorem ggX3_setLevel_X3_needCue : GoodIn wsX3_setLevel wsX3_needCue := goodIn_ca (goodIn_r _ [20, 21, 22, 23, 24, 25, 4, 26, 27, 28, 29, 30, 31, 32, 33, 34, 64, 65, 66, 67, 68, 69, 70, 71, 72, 73, 74, 75, 76, 77, 78, 79] (by decide +kernel) (by decide +kernel)) (goodIn_sub (fun _ h => List.mem_cons_of_mem _ (List.mem_append_right _ h)) (by decide +kernel))
set_option maxRecDepth 20000 in
theorem gX3_setLevel_X3_needCue : GoodIn wsX3_setLevel (wsV RX3 117 RX3 yX3_needCue wsX3_needCue) := goodIn_app (goodIn_of _ (by decide +kernel)) ggX3_setLevel_X3_needCue
set_option maxRecDepth 20000 in
theorem ggX3_setLevel_X3_cuesOf : GoodIn wsX3_setLevel wsX3_cuesOf := goodIn_r _ [26, 27, 28, 64, 65, 66, 67, 68, 69, 70] (by decide +kernel) (by decide +kernel)
set_option maxRecDepth 20000 in
theorem gX3_setLevel_X3_cuesOf : GoodIn wsX3_setLevel (wsV RX3 104 RX3 yX3_cuesOf wsX3_cuesOf) := goodIn_app (goodIn_of _ (by decide +kernel)) ggX3_setLevel_X3_cuesOf
set_option maxRecDepth 20000 in
theorem ggX3_setLevel_X0_told : GoodIn wsX3_setLevel wsX0_told := goodIn_r _ [38, 39, 40, 30, 31, 32, 33, 34, 12, 4, 13, 71, 72, 73, 74, 75, 76, 77, 78, 79] (by decide +kernel) (by decide +kernel)
set_option maxRecDepth 20000 in
theorem gX3_setLevel_X0_told : GoodIn wsX3_setLevel (wsV RX3 120 RX0 yX0_told wsX0_told) := goodIn_app (goodIn_of _ (by decide +kernel)) ggX3_setLevel_X0_told
set_option maxRecDepth 20000 in
theorem ggX3_setLevel_X1_note : GoodIn wsX3_setLevel wsX1_note := goodIn_r _ [45, 46, 47, 48, 49, 50, 51, 52, 53, 54, 44, 55, 56, 57, 58, 59, 80, 81, 82] (by decide +kernel) (by decide +kernel)
set_option maxRecDepth 20000 in
theorem gX3_setLevel_X1_note : GoodIn wsX3_setLevel (wsV RX3 71 RX1 yX1_note wsX1_note) := goodIn_app (goodIn_of _ (by decide +kernel)) ggX3_setLevel_X1_note
set_option maxRecDepth 20000 in
theorem ggX3_setLevel_X0_tell : GoodIn wsX3_setLevel wsX0_tell := goodIn_r _ [63, 39, 40, 30, 31, 32, 33, 34, 12, 4, 13, 71, 72, 73, 74, 75, 76, 77, 78, 79] (by decide +kernel) (by decide +kernel)
set_option maxRecDepth 20000 in
theorem gX3_setLevel_X0_tell : GoodIn wsX3_setLevel (wsV RX3 123 RX0 yX0_tell wsX0_tell) := goodIn_app (goodIn_of _ (by decide +kernel)) ggX3_setLevel_X0_tell
theorem dX3_setLevel_0 : decode cX3_setLevel 0 = .ok (.iload_n 1, 1) := by decide +kernel
theorem dX3_setLevel_1 : decode cX3_setLevel 1 = .ok (.invokestatic 98, 3) := by decide +kernel
theorem dX3_setLevel_4 : decode cX3_setLevel 4 = .ok (.iload_n 3, 1) := by decide +kernel
theorem dX3_setLevel_5 : decode cX3_setLevel 5 = .ok (.invokestatic 95, 3) := by decide +kernel
theorem dX3_setLevel_8 : decode cX3_setLevel 8 = .ok (.iload 4, 2) := by decide +kernel
theorem dX3_setLevel_10 : decode cX3_setLevel 10 = .ok (.invokestatic 114, 3) := by decide +kernel
theorem dX3_setLevel_13 : decode cX3_setLevel 13 = .ok (.aload_n 0, 1) := by decide +kernel
theorem dX3_setLevel_14 : decode cX3_setLevel 14 = .ok (.iload_n 1, 1) := by decide +kernel
theorem dX3_setLevel_15 : decode cX3_setLevel 15 = .ok (.iload_n 2, 1) := by decide +kernel
theorem dX3_setLevel_16 : decode cX3_setLevel 16 = .ok (.invokevirtual 117, 3) := by decide +kernel
theorem dX3_setLevel_19 : decode cX3_setLevel 19 = .ok (.aload_n 0, 1) := by decide +kernel
theorem dX3_setLevel_20 : decode cX3_setLevel 20 = .ok (.iload_n 1, 1) := by decide +kernel
theorem dX3_setLevel_21 : decode cX3_setLevel 21 = .ok (.invokevirtual 104, 3) := by decide +kernel
theorem dX3_setLevel_24 : decode cX3_setLevel 24 = .ok (.astore 5, 2) := by decide +kernel
theorem dX3_setLevel_26 : decode cX3_setLevel 26 = .ok (.aload 5, 2) := by decide +kernel
theorem dX3_setLevel_28 : decode cX3_setLevel 28 = .ok (.iload_n 2, 1) := by decide +kernel
theorem dX3_setLevel_29 : decode cX3_setLevel 29 = .ok (.iload_n 3, 1) := by decide +kernel
theorem dX3_setLevel_30 : decode cX3_setLevel 30 = .ok (.invokevirtual 120, 3) := by decide +kernel
theorem dX3_setLevel_33 : decode cX3_setLevel 33 = .ok (.istore 6, 2) := by decide +kernel
theorem dX3_setLevel_35 : decode cX3_setLevel 35 = .ok (.aload_n 0, 1) := by decide +kernel
theorem dX3_setLevel_36 : decode cX3_setLevel 36 = .ok (.getfield 29, 3) := by decide +kernel
theorem dX3_setLevel_39 : decode cX3_setLevel 39 = .ok (.iconst 2, 1) := by decide +kernel
theorem dX3_setLevel_40 : decode cX3_setLevel 40 = .ok (.iload_n 1, 1) := by decide +kernel
theorem dX3_setLevel_41 : decode cX3_setLevel 41 = .ok (.iload_n 2, 1) := by decide +kernel
theorem dX3_setLevel_42 : decode cX3_setLevel 42 = .ok (.iload_n 3, 1) := by decide +kernel
theorem dX3_setLevel_43 : decode cX3_setLevel 43 = .ok (.iload 6, 2) := by decide +kernel
theorem dX3_setLevel_45 : decode cX3_setLevel 45 = .ok (.invokevirtual 71, 3) := by decide +kernel
theorem dX3_setLevel_48 : decode cX3_setLevel 48 = .ok (.aload 5, 2) := by decide +kernel
theorem dX3_setLevel_50 : decode cX3_setLevel 50 = .ok (.iload_n 2, 1) := by decide +kernel
theorem dX3_setLevel_51 : decode cX3_setLevel 51 = .ok (.iload_n 3, 1) := by decide +kernel
theorem dX3_setLevel_52 : decode cX3_setLevel 52 = .ok (.iload 4, 2) := by decide +kernel
theorem dX3_setLevel_54 : decode cX3_setLevel 54 = .ok (.invokevirtual 123, 3) := by decide +kernel
theorem dX3_setLevel_57 : decode cX3_setLevel 57 = .ok (.iload 6, 2) := by decide +kernel
theorem dX3_setLevel_59 : decode cX3_setLevel 59 = .ok (.ireturn, 1) := by decide +kernel
set_option maxRecDepth 20000 in
theorem ggX3_undo_X1_isEmpty : GoodIn wsX3_undo wsX1_isEmpty := goodIn_r _ [8, 9, 86, 87, 88] (by decide +kernel) (by decide +kernel)
set_option maxRecDepth 20000 in
theorem gX3_undo_X1_isEmpty : GoodIn wsX3_undo (wsV RX3 126 RX1 yX1_isEmpty wsX1_isEmpty) := goodIn_app (goodIn_of _ (by decide +kernel)) ggX3_undo_X1_isEmpty
set_option maxRecDepth 20000 in
theorem ggX3_undo_X3_takeBackLast : GoodIn wsX3_undo wsX3_takeBackLast := goodIn_r _ [14, 3, 15, 16, 17, 18, 7, 19, 20, 21, 22, 23, 24, 25, 26, 27, 28, 29, 30, 31, 32, 33, 34, 35, 36, 37, 38, 39, 40, 41, 42, 43, 44, 45, 46, 13, 47, 48, 49, 50, 51, 52, 53, 54, 55, 56, 57, 58, 59, 60, 61, 62, 63, 64, 65, 66, 79, 80, 81, 82, 83, 84, 85, 86, 87, 88, 89, 90, 91, 92, 93, 94, 95, 96, 97, 98, 99, 100, 101] (by decide +kernel) (by decide +kernel)
set_option maxRecDepth 20000 in
theorem gX3_undo_X3_takeBackLast : GoodIn wsX3_undo (wsV RX3 131 RX3 yX3_takeBackLast wsX3_takeBackLast) := goodIn_app (goodIn_of _ (by decide +kernel)) ggX3_undo_X3_takeBackLast
set_option maxRecDepth 20000 in
theorem ggX3_undo_X1_dropLast : GoodIn wsX3_undo wsX1_dropLast := goodIn_r _ [70, 25, 9, 71, 72, 73, 74, 21, 22, 23, 7, 24, 86, 87, 88] (by decide +kernel) (by decide +kernel)
set_option maxRecDepth 20000 in
theorem gX3_undo_X1_dropLast : GoodIn wsX3_undo (wsV RX3 134 RX1 yX1_dropLast wsX1_dropLast) := goodIn_app (goodIn_of _ (by decide +kernel)) ggX3_undo_X1_dropLast
set_option maxRecDepth 20000 in
theorem ggX3_undo_X1_size : GoodIn wsX3_undo wsX1_size := goodIn_r _ [78, 9, 86, 87, 88] (by decide +kernel) (by decide +kernel)
set_option maxRecDepth 20000 in
theorem gX3_undo_X1_size : GoodIn wsX3_undo (wsV RX3 137 RX1 yX1_size wsX1_size) := goodIn_app (goodIn_of _ (by decide +kernel)) ggX3_undo_X1_size
theorem dX3_undo_0 : decode cX3_undo 0 = .ok (.aload_n 0, 1) := by decide +kernel
theorem dX3_undo_1 : decode cX3_undo 1 = .ok (.getfield 29, 3) := by decide +kernel
theorem dX3_undo_4 : decode cX3_undo 4 = .ok (.invokevirtual 126, 3) := by decide +kernel
theorem dX3_undo_7 : decode cX3_undo 7 = .ok (.ifCond .eq 13, 3) := by decide +kernel
theorem dX3_undo_10 : decode cX3_undo 10 = .ok (.new 49, 3) := by decide +kernel
theorem dX3_undo_13 : decode cX3_undo 13 = .ok (.dup, 1) := by decide +kernel
theorem dX3_undo_14 : decode cX3_undo 14 = .ok (.ldc 129, 2) := by decide +kernel
theorem dX3_undo_16 : decode cX3_undo 16 = .ok (.invokespecial 53, 3) := by decide +kernel
theorem dX3_undo_19 : decode cX3_undo 19 = .ok (.athrow, 1) := by decide +kernel
theorem dX3_undo_20 : decode cX3_undo 20 = .ok (.aload_n 0, 1) := by decide +kernel
theorem dX3_undo_21 : decode cX3_undo 21 = .ok (.invokevirtual 131, 3) := by decide +kernel
theorem dX3_undo_24 : decode cX3_undo 24 = .ok (.aload_n 0, 1) := by decide +kernel
theorem dX3_undo_25 : decode cX3_undo 25 = .ok (.getfield 29, 3) := by decide +kernel
theorem dX3_undo_28 : decode cX3_undo 28 = .ok (.invokevirtual 134, 3) := by decide +kernel
theorem dX3_undo_31 : decode cX3_undo 31 = .ok (.aload_n 0, 1) := by decide +kernel
theorem dX3_undo_32 : decode cX3_undo 32 = .ok (.getfield 29, 3) := by decide +kernel
theorem dX3_undo_35 : decode cX3_undo 35 = .ok (.invokevirtual 137, 3) := by decide +kernel
theorem dX3_undo_38 : decode cX3_undo 38 = .ok (.ireturn, 1) := by decide +kernel
set_option maxRecDepth 20000 in
theorem ggX3_go_X3_needList : GoodIn wsX3_go wsX3_needList := goodIn_ca (goodIn_r _ [4, 5, 6] (by decide +kernel) (by decide +kernel)) (goodIn_sub (fun _ h => List.mem_cons_of_mem _ (List.mem_append_left _ (List.mem_append_right _ h))) (by decide +kernel))
set_option maxRecDepth 20000 in
theorem gX3_go_X3_needList : GoodIn wsX3_go (va_wsS RX3 98 yX3_needList wsX3_needList) := goodIn_app (goodIn_of _ (by decide +kernel)) ggX3_go_X3_needList
set_option maxRecDepth 20000 in
theorem ggX3_go_X3_needCue : GoodIn wsX3_go wsX3_needCue := goodIn_ca (goodIn_r _ [10, 11, 12, 13, 14, 15, 3, 16, 17, 18, 19, 20, 21, 22, 23, 24, 70, 71, 72, 73, 74, 75, 76, 77, 78, 79, 80, 81, 82, 83, 84, 85] (by decide +kernel) (by decide +kernel)) (goodIn_sub (fun _ h => List.mem_cons_of_mem _ (List.mem_append_right _ h)) (by decide +kernel))
set_option maxRecDepth 20000 in
theorem gX3_go_X3_needCue : GoodIn wsX3_go (wsV RX3 117 RX3 yX3_needCue wsX3_needCue) := goodIn_app (goodIn_of _ (by decide +kernel)) ggX3_go_X3_needCue
set_option maxRecDepth 20000 in
theorem ggX3_go_X3_cuesOf : GoodIn wsX3_go wsX3_cuesOf := goodIn_r _ [16, 17, 18, 70, 71, 72, 73, 74, 75, 76] (by decide +kernel) (by decide +kernel)
set_option maxRecDepth 20000 in
theorem gX3_go_X3_cuesOf : GoodIn wsX3_go (wsV RX3 104 RX3 yX3_cuesOf wsX3_cuesOf) := goodIn_app (goodIn_of _ (by decide +kernel)) ggX3_go_X3_cuesOf
set_option maxRecDepth 20000 in
theorem ggX3_go_X0_countTold : GoodIn wsX3_go wsX0_countTold := goodIn_r _ [28, 29, 30, 31, 22, 32, 33, 34, 20, 21, 23, 24, 35, 3, 36, 77, 78, 79, 80, 81, 82, 83, 84, 85] (by decide +kernel) (by decide +kernel)
set_option maxRecDepth 20000 in
theorem gX3_go_X0_countTold : GoodIn wsX3_go (wsV RX3 141 RX0 yX0_countTold wsX0_countTold) := goodIn_app (goodIn_of _ (by decide +kernel)) ggX3_go_X0_countTold
set_option maxRecDepth 20000 in
theorem ggX3_go_X3_beginFrom : GoodIn wsX3_go wsX3_beginFrom := goodIn_r _ [40, 13, 14, 15, 3, 16, 17, 18, 41, 42, 43, 22, 44, 45, 46, 47, 48, 49, 50, 51, 52, 53, 54, 34, 20, 21, 23, 24, 35, 36, 29, 30, 31, 32, 33, 55, 56, 57, 58, 59, 60, 61, 62, 63, 64, 65, 66, 67, 68, 69, 70, 71, 72, 73, 74, 75, 76, 77, 78, 79, 80, 81, 82, 83, 84, 85] (by decide +kernel) (by decide +kernel)
set_option maxRecDepth 20000 in
theorem gX3_go_X3_beginFrom : GoodIn wsX3_go (wsV RX3 144 RX3 yX3_beginFrom wsX3_beginFrom) := goodIn_app (goodIn_of _ (by decide +kernel)) ggX3_go_X3_beginFrom
theorem dX3_go_0 : decode cX3_go 0 = .ok (.iload_n 1, 1) := by decide +kernel
theorem dX3_go_1 : decode cX3_go 1 = .ok (.invokestatic 98, 3) := by decide +kernel
theorem dX3_go_4 : decode cX3_go 4 = .ok (.aload_n 0, 1) := by decide +kernel
theorem dX3_go_5 : decode cX3_go 5 = .ok (.iload_n 1, 1) := by decide +kernel
theorem dX3_go_6 : decode cX3_go 6 = .ok (.iload_n 2, 1) := by decide +kernel
theorem dX3_go_7 : decode cX3_go 7 = .ok (.invokevirtual 117, 3) := by decide +kernel
theorem dX3_go_10 : decode cX3_go 10 = .ok (.aload_n 0, 1) := by decide +kernel
theorem dX3_go_11 : decode cX3_go 11 = .ok (.iload_n 1, 1) := by decide +kernel
theorem dX3_go_12 : decode cX3_go 12 = .ok (.invokevirtual 104, 3) := by decide +kernel
theorem dX3_go_15 : decode cX3_go 15 = .ok (.iload_n 2, 1) := by decide +kernel
theorem dX3_go_16 : decode cX3_go 16 = .ok (.invokevirtual 141, 3) := by decide +kernel
theorem dX3_go_19 : decode cX3_go 19 = .ok (.istore_n 3, 1) := by decide +kernel
theorem dX3_go_20 : decode cX3_go 20 = .ok (.aload_n 0, 1) := by decide +kernel
theorem dX3_go_21 : decode cX3_go 21 = .ok (.iload_n 1, 1) := by decide +kernel
theorem dX3_go_22 : decode cX3_go 22 = .ok (.iload_n 2, 1) := by decide +kernel
theorem dX3_go_23 : decode cX3_go 23 = .ok (.invokevirtual 144, 3) := by decide +kernel
theorem dX3_go_26 : decode cX3_go 26 = .ok (.pop, 1) := by decide +kernel
theorem dX3_go_27 : decode cX3_go 27 = .ok (.iload_n 3, 1) := by decide +kernel
theorem dX3_go_28 : decode cX3_go 28 = .ok (.ireturn, 1) := by decide +kernel
set_option maxRecDepth 20000 in
theorem ggX3_pass_X3_passTenth : GoodIn wsX3_pass wsX3_passTenth := goodIn_r _ [7, 8, 9, 10, 6, 11, 12, 13, 14, 15, 16, 17, 18, 19, 20, 21, 22, 23, 24, 25, 26, 27, 28, 29, 30, 31, 32, 33, 34, 35, 36, 37, 38, 39, 40, 41, 42, 43, 44, 45, 46, 47, 48, 49, 50, 51, 52, 53, 54, 55, 56, 57, 58, 59, 60, 61, 62, 63, 64, 65, 66, 67, 68, 69, 70, 71, 72, 73, 74, 75, 76, 77, 78, 79, 80] (by decide +kernel) (by decide +kernel)
set_option maxRecDepth 20000 in
theorem gX3_pass_X3_passTenth : GoodIn wsX3_pass (wsV RX3 152 RX3 yX3_passTenth wsX3_passTenth) := goodIn_app (goodIn_of _ (by decide +kernel)) ggX3_pass_X3_passTenth
theorem dX3_pass_0 : decode cX3_pass 0 = .ok (.iload_n 1, 1) := by decide +kernel
theorem dX3_pass_1 : decode cX3_pass 1 = .ok (.iconst 1, 1) := by decide +kernel
theorem dX3_pass_2 : decode cX3_pass 2 = .ok (.if_icmp .lt 10, 3) := by decide +kernel
theorem dX3_pass_5 : decode cX3_pass 5 = .ok (.iload_n 1, 1) := by decide +kernel
theorem dX3_pass_6 : decode cX3_pass 6 = .ok (.sipush 1000, 3) := by decide +kernel
theorem dX3_pass_9 : decode cX3_pass 9 = .ok (.if_icmp .le 13, 3) := by decide +kernel
theorem dX3_pass_12 : decode cX3_pass 12 = .ok (.new 147, 3) := by decide +kernel
theorem dX3_pass_15 : decode cX3_pass 15 = .ok (.dup, 1) := by decide +kernel
theorem dX3_pass_16 : decode cX3_pass 16 = .ok (.ldc 149, 2) := by decide +kernel
theorem dX3_pass_18 : decode cX3_pass 18 = .ok (.invokespecial 151, 3) := by decide +kernel
theorem dX3_pass_21 : decode cX3_pass 21 = .ok (.athrow, 1) := by decide +kernel
theorem dX3_pass_22 : decode cX3_pass 22 = .ok (.iconst 0, 1) := by decide +kernel
theorem dX3_pass_23 : decode cX3_pass 23 = .ok (.istore_n 2, 1) := by decide +kernel
theorem dX3_pass_24 : decode cX3_pass 24 = .ok (.iconst 0, 1) := by decide +kernel
theorem dX3_pass_25 : decode cX3_pass 25 = .ok (.istore_n 3, 1) := by decide +kernel
theorem dX3_pass_26 : decode cX3_pass 26 = .ok (.iload_n 3, 1) := by decide +kernel
theorem dX3_pass_27 : decode cX3_pass 27 = .ok (.iload_n 1, 1) := by decide +kernel
theorem dX3_pass_28 : decode cX3_pass 28 = .ok (.if_icmp .ge 25, 3) := by decide +kernel
theorem dX3_pass_31 : decode cX3_pass 31 = .ok (.iload_n 2, 1) := by decide +kernel
theorem dX3_pass_32 : decode cX3_pass 32 = .ok (.aload_n 0, 1) := by decide +kernel
theorem dX3_pass_33 : decode cX3_pass 33 = .ok (.iconst 0, 1) := by decide +kernel
theorem dX3_pass_34 : decode cX3_pass 34 = .ok (.invokevirtual 152, 3) := by decide +kernel
theorem dX3_pass_37 : decode cX3_pass 37 = .ok (.iadd, 1) := by decide +kernel
theorem dX3_pass_38 : decode cX3_pass 38 = .ok (.istore_n 2, 1) := by decide +kernel
theorem dX3_pass_39 : decode cX3_pass 39 = .ok (.iload_n 2, 1) := by decide +kernel
theorem dX3_pass_40 : decode cX3_pass 40 = .ok (.aload_n 0, 1) := by decide +kernel
theorem dX3_pass_41 : decode cX3_pass 41 = .ok (.iconst 1, 1) := by decide +kernel
theorem dX3_pass_42 : decode cX3_pass 42 = .ok (.invokevirtual 152, 3) := by decide +kernel
theorem dX3_pass_45 : decode cX3_pass 45 = .ok (.iadd, 1) := by decide +kernel
theorem dX3_pass_46 : decode cX3_pass 46 = .ok (.istore_n 2, 1) := by decide +kernel
theorem dX3_pass_47 : decode cX3_pass 47 = .ok (.iinc 3 1, 3) := by decide +kernel
theorem dX3_pass_50 : decode cX3_pass 50 = .ok (.goto (-24), 3) := by decide +kernel
theorem dX3_pass_53 : decode cX3_pass 53 = .ok (.iload_n 2, 1) := by decide +kernel
theorem dX3_pass_54 : decode cX3_pass 54 = .ok (.ireturn, 1) := by decide +kernel
set_option maxRecDepth 20000 in
theorem ggX3_running_X3_needList : GoodIn wsX3_running wsX3_needList := goodIn_ca (goodIn_r _ [4, 5, 6] (by decide +kernel) (by decide +kernel)) (goodIn_sub (fun _ h => List.mem_cons_of_mem _ (List.mem_append_right _ h)) (by decide +kernel))
set_option maxRecDepth 20000 in
theorem gX3_running_X3_needList : GoodIn wsX3_running (va_wsS RX3 98 yX3_needList wsX3_needList) := goodIn_app (goodIn_of _ (by decide +kernel)) ggX3_running_X3_needList
set_option maxRecDepth 20000 in
theorem ggX3_running_X3_cuesOf : GoodIn wsX3_running wsX3_cuesOf := goodIn_r _ [10, 11, 12, 19, 20, 21, 22, 23, 24, 25] (by decide +kernel) (by decide +kernel)
set_option maxRecDepth 20000 in
theorem gX3_running_X3_cuesOf : GoodIn wsX3_running (wsV RX3 104 RX3 yX3_cuesOf wsX3_cuesOf) := goodIn_app (goodIn_of _ (by decide +kernel)) ggX3_running_X3_cuesOf
set_option maxRecDepth 20000 in
theorem ggX3_running_X0_begunLast : GoodIn wsX3_running wsX0_begunLast := goodIn_r _ [17, 18, 26, 27, 28, 29, 30, 31, 32, 33, 34] (by decide +kernel) (by decide +kernel)
set_option maxRecDepth 20000 in
theorem gX3_running_X0_begunLast : GoodIn wsX3_running (wsV RX3 155 RX0 yX0_begunLast wsX0_begunLast) := goodIn_app (goodIn_of _ (by decide +kernel)) ggX3_running_X0_begunLast
theorem dX3_running_0 : decode cX3_running 0 = .ok (.iload_n 1, 1) := by decide +kernel
theorem dX3_running_1 : decode cX3_running 1 = .ok (.invokestatic 98, 3) := by decide +kernel
theorem dX3_running_4 : decode cX3_running 4 = .ok (.aload_n 0, 1) := by decide +kernel
theorem dX3_running_5 : decode cX3_running 5 = .ok (.iload_n 1, 1) := by decide +kernel
theorem dX3_running_6 : decode cX3_running 6 = .ok (.invokevirtual 104, 3) := by decide +kernel
theorem dX3_running_9 : decode cX3_running 9 = .ok (.invokevirtual 155, 3) := by decide +kernel
theorem dX3_running_12 : decode cX3_running 12 = .ok (.ireturn, 1) := by decide +kernel
set_option maxRecDepth 20000 in
theorem ggX3_level_X3_needList : GoodIn wsX3_level wsX3_needList := goodIn_ca (goodIn_r _ [4, 5, 6] (by decide +kernel) (by decide +kernel)) (goodIn_sub (fun _ h => List.mem_cons_of_mem _ (List.mem_append_right _ h)) (by decide +kernel))
set_option maxRecDepth 20000 in
theorem gX3_level_X3_needList : GoodIn wsX3_level (va_wsS RX3 98 yX3_needList wsX3_needList) := goodIn_app (goodIn_of _ (by decide +kernel)) ggX3_level_X3_needList
set_option maxRecDepth 20000 in
theorem ggX3_level_X3_needChannel : GoodIn wsX3_level wsX3_needChannel := goodIn_ca (goodIn_r _ [9, 5, 6, 10, 11, 3, 12] (by decide +kernel) (by decide +kernel)) (goodIn_sub (fun _ h => List.mem_cons_of_mem _ (List.mem_append_right _ h)) (by decide +kernel))
set_option maxRecDepth 20000 in
theorem gX3_level_X3_needChannel : GoodIn wsX3_level (va_wsS RX3 95 yX3_needChannel wsX3_needChannel) := goodIn_app (goodIn_of _ (by decide +kernel)) ggX3_level_X3_needChannel
set_option maxRecDepth 20000 in
theorem ggX3_level_X3_cuesOf : GoodIn wsX3_level wsX3_cuesOf := goodIn_r _ [16, 17, 18, 35, 36, 37, 38, 39, 40, 41] (by decide +kernel) (by decide +kernel)
set_option maxRecDepth 20000 in
theorem gX3_level_X3_cuesOf : GoodIn wsX3_level (wsV RX3 104 RX3 yX3_cuesOf wsX3_cuesOf) := goodIn_app (goodIn_of _ (by decide +kernel)) ggX3_level_X3_cuesOf
set_option maxRecDepth 20000 in
theorem ggX3_level_X0_levelNow : GoodIn wsX3_level wsX0_levelNow := goodIn_r _ [23, 24, 25, 26, 27, 28, 29, 30, 31, 32, 22, 33, 34, 11, 3, 12, 42, 43, 44, 45, 46, 47, 48, 49, 50] (by decide +kernel) (by decide +kernel)
set_option maxRecDepth 20000 in
theorem gX3_level_X0_levelNow : GoodIn wsX3_level (wsV RX3 158 RX0 yX0_levelNow wsX0_levelNow) := goodIn_app (goodIn_of _ (by decide +kernel)) ggX3_level_X0_levelNow
theorem dX3_level_0 : decode cX3_level 0 = .ok (.iload_n 1, 1) := by decide +kernel
theorem dX3_level_1 : decode cX3_level 1 = .ok (.invokestatic 98, 3) := by decide +kernel
theorem dX3_level_4 : decode cX3_level 4 = .ok (.iload_n 2, 1) := by decide +kernel
theorem dX3_level_5 : decode cX3_level 5 = .ok (.invokestatic 95, 3) := by decide +kernel
theorem dX3_level_8 : decode cX3_level 8 = .ok (.aload_n 0, 1) := by decide +kernel
theorem dX3_level_9 : decode cX3_level 9 = .ok (.iload_n 1, 1) := by decide +kernel
theorem dX3_level_10 : decode cX3_level 10 = .ok (.invokevirtual 104, 3) := by decide +kernel
theorem dX3_level_13 : decode cX3_level 13 = .ok (.iload_n 2, 1) := by decide +kernel
theorem dX3_level_14 : decode cX3_level 14 = .ok (.invokevirtual 158, 3) := by decide +kernel
theorem dX3_level_17 : decode cX3_level 17 = .ok (.ireturn, 1) := by decide +kernel
set_option maxRecDepth 20000 in
theorem ggX3_merged_X3_needChannel : GoodIn wsX3_merged wsX3_needChannel := goodIn_ca (goodIn_r _ [4, 5, 6, 7, 8, 3, 9] (by decide +kernel) (by decide +kernel)) (goodIn_sub (fun _ h => List.mem_cons_of_mem _ (List.mem_append_right _ h)) (by decide +kernel))
set_option maxRecDepth 20000 in
theorem gX3_merged_X3_needChannel : GoodIn wsX3_merged (va_wsS RX3 95 yX3_needChannel wsX3_needChannel) := goodIn_app (goodIn_of _ (by decide +kernel)) ggX3_merged_X3_needChannel
set_option maxRecDepth 20000 in
theorem ggX3_merged_X3_mergedNow : GoodIn wsX3_merged wsX3_mergedNow := goodIn_r _ [13, 14, 15, 16, 17, 18, 19, 20, 21, 22, 23, 24, 25, 26, 27, 28, 29, 30, 31, 32, 33, 34, 35, 36, 37, 8, 3, 9, 7, 38, 39, 40, 41, 42, 43, 44, 45, 46, 47, 48, 49, 50, 51, 52, 53] (by decide +kernel) (by decide +kernel)
set_option maxRecDepth 20000 in
theorem gX3_merged_X3_mergedNow : GoodIn wsX3_merged (wsV RX3 161 RX3 yX3_mergedNow wsX3_mergedNow) := goodIn_app (goodIn_of _ (by decide +kernel)) ggX3_merged_X3_mergedNow
theorem dX3_merged_0 : decode cX3_merged 0 = .ok (.iload_n 1, 1) := by decide +kernel
theorem dX3_merged_1 : decode cX3_merged 1 = .ok (.invokestatic 95, 3) := by decide +kernel
theorem dX3_merged_4 : decode cX3_merged 4 = .ok (.aload_n 0, 1) := by decide +kernel
theorem dX3_merged_5 : decode cX3_merged 5 = .ok (.iload_n 1, 1) := by decide +kernel
theorem dX3_merged_6 : decode cX3_merged 6 = .ok (.invokevirtual 161, 3) := by decide +kernel
theorem dX3_merged_9 : decode cX3_merged 9 = .ok (.ireturn, 1) := by decide +kernel
set_option maxRecDepth 20000 in
theorem ggX3_light_X3_needChannel : GoodIn wsX3_light wsX3_needChannel := goodIn_ca (goodIn_r _ [6, 7, 8, 9, 10, 5, 11] (by decide +kernel) (by decide +kernel)) (goodIn_sub (fun _ h => List.mem_cons_of_mem _ (List.mem_append_right _ h)) (by decide +kernel))
set_option maxRecDepth 20000 in
theorem gX3_light_X3_needChannel : GoodIn wsX3_light (va_wsS RX3 95 yX3_needChannel wsX3_needChannel) := goodIn_app (goodIn_of _ (by decide +kernel)) ggX3_light_X3_needChannel
set_option maxRecDepth 20000 in
theorem ggX3_light_X3_mergedNow : GoodIn wsX3_light wsX3_mergedNow := goodIn_r _ [15, 16, 17, 18, 19, 20, 21, 22, 23, 24, 25, 26, 27, 28, 29, 30, 31, 32, 33, 34, 35, 36, 37, 38, 39, 10, 5, 11, 9, 74, 75, 76, 77, 78, 79, 80, 81, 82, 83, 84, 85, 86, 87, 88, 89] (by decide +kernel) (by decide +kernel)
set_option maxRecDepth 20000 in
theorem gX3_light_X3_mergedNow : GoodIn wsX3_light (wsV RX3 161 RX3 yX3_mergedNow wsX3_mergedNow) := goodIn_app (goodIn_of _ (by decide +kernel)) ggX3_light_X3_mergedNow
set_option maxRecDepth 20000 in
theorem ggX3_light_X2_shineOn : GoodIn wsX3_light wsX2_shineOn := goodIn_r _ [44, 45, 46, 47, 48, 43, 49, 50, 51, 5, 52, 53, 54, 55, 56, 57, 58, 59, 60, 61, 62, 63, 64, 65, 66, 67, 68, 69, 70, 71, 72, 73, 90, 91, 92, 93] (by decide +kernel) (by decide +kernel)
set_option maxRecDepth 20000 in
theorem gX3_light_X2_shineOn : GoodIn wsX3_light (wsV RX3 164 RX2 yX2_shineOn wsX2_shineOn) := goodIn_app (goodIn_of _ (by decide +kernel)) ggX3_light_X2_shineOn
theorem dX3_light_0 : decode cX3_light 0 = .ok (.iload_n 1, 1) := by decide +kernel
theorem dX3_light_1 : decode cX3_light 1 = .ok (.invokestatic 95, 3) := by decide +kernel
theorem dX3_light_4 : decode cX3_light 4 = .ok (.aload_n 0, 1) := by decide +kernel
theorem dX3_light_5 : decode cX3_light 5 = .ok (.getfield 10, 3) := by decide +kernel
theorem dX3_light_8 : decode cX3_light 8 = .ok (.aload_n 0, 1) := by decide +kernel
theorem dX3_light_9 : decode cX3_light 9 = .ok (.getfield 91, 3) := by decide +kernel
theorem dX3_light_12 : decode cX3_light 12 = .ok (.iload_n 1, 1) := by decide +kernel
theorem dX3_light_13 : decode cX3_light 13 = .ok (.aload_n 0, 1) := by decide +kernel
theorem dX3_light_14 : decode cX3_light 14 = .ok (.iload_n 1, 1) := by decide +kernel
theorem dX3_light_15 : decode cX3_light 15 = .ok (.invokevirtual 161, 3) := by decide +kernel
theorem dX3_light_18 : decode cX3_light 18 = .ok (.invokevirtual 164, 3) := by decide +kernel
theorem dX3_light_21 : decode cX3_light 21 = .ok (.ireturn, 1) := by decide +kernel
set_option maxRecDepth 20000 in
theorem ggX3_allLight_X3_mergedNow : GoodIn wsX3_allLight wsX3_mergedNow := goodIn_r _ [7, 8, 9, 10, 11, 12, 13, 14, 15, 16, 17, 18, 19, 20, 21, 22, 23, 24, 25, 26, 27, 28, 29, 30, 31, 32, 6, 33, 34, 69, 70, 71, 72, 73, 74, 75, 76, 77, 78, 79, 80, 81, 82, 83, 84] (by decide +kernel) (by decide +kernel)
set_option maxRecDepth 20000 in
theorem gX3_allLight_X3_mergedNow : GoodIn wsX3_allLight (wsV RX3 161 RX3 yX3_mergedNow wsX3_mergedNow) := goodIn_app (goodIn_of _ (by decide +kernel)) ggX3_allLight_X3_mergedNow
set_option maxRecDepth 20000 in
theorem ggX3_allLight_X2_shineOn : GoodIn wsX3_allLight wsX2_shineOn := goodIn_r _ [39, 40, 41, 42, 43, 38, 44, 45, 46, 6, 47, 48, 49, 50, 51, 52, 53, 54, 55, 56, 57, 58, 59, 60, 61, 62, 63, 64, 65, 66, 67, 68, 85, 86, 87, 88] (by decide +kernel) (by decide +kernel)
set_option maxRecDepth 20000 in
theorem gX3_allLight_X2_shineOn : GoodIn wsX3_allLight (wsV RX3 164 RX2 yX2_shineOn wsX2_shineOn) := goodIn_app (goodIn_of _ (by decide +kernel)) ggX3_allLight_X2_shineOn
theorem dX3_allLight_0 : decode cX3_allLight 0 = .ok (.iconst 0, 1) := by decide +kernel
theorem dX3_allLight_1 : decode cX3_allLight 1 = .ok (.istore_n 1, 1) := by decide +kernel
theorem dX3_allLight_2 : decode cX3_allLight 2 = .ok (.iconst 0, 1) := by decide +kernel
theorem dX3_allLight_3 : decode cX3_allLight 3 = .ok (.istore_n 2, 1) := by decide +kernel
theorem dX3_allLight_4 : decode cX3_allLight 4 = .ok (.iload_n 2, 1) := by decide +kernel
theorem dX3_allLight_5 : decode cX3_allLight 5 = .ok (.bipush 12, 2) := by decide +kernel
theorem dX3_allLight_7 : decode cX3_allLight 7 = .ok (.if_icmp .ge 29, 3) := by decide +kernel
theorem dX3_allLight_10 : decode cX3_allLight 10 = .ok (.iload_n 1, 1) := by decide +kernel
theorem dX3_allLight_11 : decode cX3_allLight 11 = .ok (.aload_n 0, 1) := by decide +kernel
theorem dX3_allLight_12 : decode cX3_allLight 12 = .ok (.getfield 10, 3) := by decide +kernel
theorem dX3_allLight_15 : decode cX3_allLight 15 = .ok (.aload_n 0, 1) := by decide +kernel
theorem dX3_allLight_16 : decode cX3_allLight 16 = .ok (.getfield 91, 3) := by decide +kernel
theorem dX3_allLight_19 : decode cX3_allLight 19 = .ok (.iload_n 2, 1) := by decide +kernel
theorem dX3_allLight_20 : decode cX3_allLight 20 = .ok (.aload_n 0, 1) := by decide +kernel
theorem dX3_allLight_21 : decode cX3_allLight 21 = .ok (.iload_n 2, 1) := by decide +kernel
theorem dX3_allLight_22 : decode cX3_allLight 22 = .ok (.invokevirtual 161, 3) := by decide +kernel
theorem dX3_allLight_25 : decode cX3_allLight 25 = .ok (.invokevirtual 164, 3) := by decide +kernel
theorem dX3_allLight_28 : decode cX3_allLight 28 = .ok (.iadd, 1) := by decide +kernel
theorem dX3_allLight_29 : decode cX3_allLight 29 = .ok (.istore_n 1, 1) := by decide +kernel
theorem dX3_allLight_30 : decode cX3_allLight 30 = .ok (.iinc 2 1, 3) := by decide +kernel
theorem dX3_allLight_33 : decode cX3_allLight 33 = .ok (.goto (-29), 3) := by decide +kernel
theorem dX3_allLight_36 : decode cX3_allLight 36 = .ok (.iload_n 1, 1) := by decide +kernel
theorem dX3_allLight_37 : decode cX3_allLight 37 = .ok (.ireturn, 1) := by decide +kernel
set_option maxRecDepth 20000 in
theorem ggX3_preview_X3_needList : GoodIn wsX3_preview wsX3_needList := goodIn_ca (goodIn_r _ [5, 6, 7] (by decide +kernel) (by decide +kernel)) (goodIn_sub (fun _ h => List.mem_cons_of_mem _ (List.mem_append_left _ (List.mem_append_right _ h))) (by decide +kernel))
set_option maxRecDepth 20000 in
theorem gX3_preview_X3_needList : GoodIn wsX3_preview (va_wsS RX3 98 yX3_needList wsX3_needList) := goodIn_app (goodIn_of _ (by decide +kernel)) ggX3_preview_X3_needList
set_option maxRecDepth 20000 in
theorem ggX3_preview_X3_needNight : GoodIn wsX3_preview wsX3_needNight := goodIn_ca (goodIn_r _ [10, 6, 7, 11, 12, 4, 13] (by decide +kernel) (by decide +kernel)) (goodIn_sub (fun _ h => List.mem_cons_of_mem _ (List.mem_append_left _ (List.mem_append_right _ h))) (by decide +kernel))
set_option maxRecDepth 20000 in
theorem gX3_preview_X3_needNight : GoodIn wsX3_preview (va_wsS RX3 79 yX3_needNight wsX3_needNight) := goodIn_app (goodIn_of _ (by decide +kernel)) ggX3_preview_X3_needNight
set_option maxRecDepth 20000 in
theorem ggX3_preview_X3_needCue : GoodIn wsX3_preview wsX3_needCue := goodIn_ca (goodIn_r _ [17, 18, 19, 20, 21, 22, 4, 23, 24, 25, 26, 27, 28, 29, 30, 31, 80, 81, 82, 83, 84, 85, 86, 87, 88, 89, 90, 91, 92, 93, 94, 95] (by decide +kernel) (by decide +kernel)) (goodIn_sub (fun _ h => List.mem_cons_of_mem _ (List.mem_append_right _ h)) (by decide +kernel))
set_option maxRecDepth 20000 in
theorem gX3_preview_X3_needCue : GoodIn wsX3_preview (wsV RX3 117 RX3 yX3_needCue wsX3_needCue) := goodIn_app (goodIn_of _ (by decide +kernel)) ggX3_preview_X3_needCue
set_option maxRecDepth 20000 in
theorem ggX3_preview_X3_cuesOf : GoodIn wsX3_preview wsX3_cuesOf := goodIn_r _ [23, 24, 25, 80, 81, 82, 83, 84, 85, 86] (by decide +kernel) (by decide +kernel)
set_option maxRecDepth 20000 in
theorem gX3_preview_X3_cuesOf : GoodIn wsX3_preview (wsV RX3 104 RX3 yX3_cuesOf wsX3_cuesOf) := goodIn_app (goodIn_of _ (by decide +kernel)) ggX3_preview_X3_cuesOf
set_option maxRecDepth 20000 in
theorem ggX3_preview_X0_toldOrZero : GoodIn wsX3_preview wsX0_toldOrZero := goodIn_r _ [35, 36, 37, 38, 39, 40, 41, 42, 29, 43, 44, 45, 27, 28, 30, 31, 46, 4, 47, 87, 88, 89, 90, 91, 92, 93, 94, 95] (by decide +kernel) (by decide +kernel)
set_option maxRecDepth 20000 in
theorem gX3_preview_X0_toldOrZero : GoodIn wsX3_preview (wsV RX3 168 RX0 yX0_toldOrZero wsX0_toldOrZero) := goodIn_app (goodIn_of _ (by decide +kernel)) ggX3_preview_X0_toldOrZero
set_option maxRecDepth 20000 in
theorem ggX3_preview_X2_shineOn : GoodIn wsX3_preview wsX2_shineOn := goodIn_r _ [52, 53, 54, 55, 56, 51, 57, 58, 12, 4, 13, 59, 60, 61, 62, 63, 64, 65, 66, 67, 68, 69, 70, 71, 72, 73, 74, 75, 76, 77, 78, 79, 96, 97, 98, 99] (by decide +kernel) (by decide +kernel)
set_option maxRecDepth 20000 in
theorem gX3_preview_X2_shineOn : GoodIn wsX3_preview (wsV RX3 164 RX2 yX2_shineOn wsX2_shineOn) := goodIn_app (goodIn_of _ (by decide +kernel)) ggX3_preview_X2_shineOn
theorem dX3_preview_0 : decode cX3_preview 0 = .ok (.iload_n 1, 1) := by decide +kernel
theorem dX3_preview_1 : decode cX3_preview 1 = .ok (.invokestatic 98, 3) := by decide +kernel
theorem dX3_preview_4 : decode cX3_preview 4 = .ok (.iload_n 3, 1) := by decide +kernel
theorem dX3_preview_5 : decode cX3_preview 5 = .ok (.invokestatic 79, 3) := by decide +kernel
theorem dX3_preview_8 : decode cX3_preview 8 = .ok (.aload_n 0, 1) := by decide +kernel
theorem dX3_preview_9 : decode cX3_preview 9 = .ok (.iload_n 1, 1) := by decide +kernel
theorem dX3_preview_10 : decode cX3_preview 10 = .ok (.iload_n 2, 1) := by decide +kernel
theorem dX3_preview_11 : decode cX3_preview 11 = .ok (.invokevirtual 117, 3) := by decide +kernel
theorem dX3_preview_14 : decode cX3_preview 14 = .ok (.aload_n 0, 1) := by decide +kernel
theorem dX3_preview_15 : decode cX3_preview 15 = .ok (.iload_n 1, 1) := by decide +kernel
theorem dX3_preview_16 : decode cX3_preview 16 = .ok (.invokevirtual 104, 3) := by decide +kernel
theorem dX3_preview_19 : decode cX3_preview 19 = .ok (.astore 4, 2) := by decide +kernel
theorem dX3_preview_21 : decode cX3_preview 21 = .ok (.iconst 0, 1) := by decide +kernel
theorem dX3_preview_22 : decode cX3_preview 22 = .ok (.istore 5, 2) := by decide +kernel
theorem dX3_preview_24 : decode cX3_preview 24 = .ok (.iconst 0, 1) := by decide +kernel
theorem dX3_preview_25 : decode cX3_preview 25 = .ok (.istore 6, 2) := by decide +kernel
theorem dX3_preview_27 : decode cX3_preview 27 = .ok (.iload 6, 2) := by decide +kernel
theorem dX3_preview_29 : decode cX3_preview 29 = .ok (.bipush 12, 2) := by decide +kernel
theorem dX3_preview_31 : decode cX3_preview 31 = .ok (.if_icmp .ge 32, 3) := by decide +kernel
theorem dX3_preview_34 : decode cX3_preview 34 = .ok (.iload 5, 2) := by decide +kernel
theorem dX3_preview_36 : decode cX3_preview 36 = .ok (.aload_n 0, 1) := by decide +kernel
theorem dX3_preview_37 : decode cX3_preview 37 = .ok (.getfield 10, 3) := by decide +kernel
theorem dX3_preview_40 : decode cX3_preview 40 = .ok (.iload_n 3, 1) := by decide +kernel
theorem dX3_preview_41 : decode cX3_preview 41 = .ok (.iload 6, 2) := by decide +kernel
theorem dX3_preview_43 : decode cX3_preview 43 = .ok (.aload 4, 2) := by decide +kernel
theorem dX3_preview_45 : decode cX3_preview 45 = .ok (.iload_n 2, 1) := by decide +kernel
theorem dX3_preview_46 : decode cX3_preview 46 = .ok (.iload 6, 2) := by decide +kernel
theorem dX3_preview_48 : decode cX3_preview 48 = .ok (.invokevirtual 168, 3) := by decide +kernel
theorem dX3_preview_51 : decode cX3_preview 51 = .ok (.invokevirtual 164, 3) := by decide +kernel
theorem dX3_preview_54 : decode cX3_preview 54 = .ok (.iadd, 1) := by decide +kernel
theorem dX3_preview_55 : decode cX3_preview 55 = .ok (.istore 5, 2) := by decide +kernel
theorem dX3_preview_57 : decode cX3_preview 57 = .ok (.iinc 6 1, 3) := by decide +kernel
theorem dX3_preview_60 : decode cX3_preview 60 = .ok (.goto (-33), 3) := by decide +kernel
theorem dX3_preview_63 : decode cX3_preview 63 = .ok (.iload 5, 2) := by decide +kernel
theorem dX3_preview_65 : decode cX3_preview 65 = .ok (.ireturn, 1) := by decide +kernel
set_option maxRecDepth 20000 in
theorem ggX3_touched_X3_needLamp : GoodIn wsX3_touched wsX3_needLamp := goodIn_ca (goodIn_r _ [8, 9, 10, 1, 11, 12, 13, 14, 15, 16, 81, 82, 83, 84, 85, 86, 87, 88, 89, 90, 91] (by decide +kernel) (by decide +kernel)) (goodIn_sub (fun _ h => List.mem_cons_of_mem _ (List.mem_append_left _ (List.mem_append_right _ h))) (by decide +kernel))
set_option maxRecDepth 20000 in
theorem gX3_touched_X3_needLamp : GoodIn wsX3_touched (wsV RX3 60 RX3 yX3_needLamp wsX3_needLamp) := goodIn_app (goodIn_of _ (by decide +kernel)) ggX3_touched_X3_needLamp
set_option maxRecDepth 20000 in
theorem ggX3_touched_X3_needLampKind : GoodIn wsX3_touched wsX3_needLampKind := goodIn_ca (goodIn_r _ [19, 20, 21] (by decide +kernel) (by decide +kernel)) (goodIn_sub (fun _ h => List.mem_cons_of_mem _ (List.mem_append_right _ h)) (by decide +kernel))
set_option maxRecDepth 20000 in
theorem gX3_touched_X3_needLampKind : GoodIn wsX3_touched (va_wsS RX3 41 yX3_needLampKind wsX3_needLampKind) := goodIn_app (goodIn_of _ (by decide +kernel)) ggX3_touched_X3_needLampKind
set_option maxRecDepth 20000 in
theorem ggX3_touched_X3_needNight : GoodIn wsX3_touched wsX3_needNight := goodIn_ca (goodIn_r _ [24, 20, 21, 25, 26, 7, 27] (by decide +kernel) (by decide +kernel)) (goodIn_sub (fun _ h => List.mem_cons_of_mem _ (List.mem_append_right _ h)) (by decide +kernel))
set_option maxRecDepth 20000 in
theorem gX3_touched_X3_needNight : GoodIn wsX3_touched (va_wsS RX3 79 yX3_needNight wsX3_needNight) := goodIn_app (goodIn_of _ (by decide +kernel)) ggX3_touched_X3_needNight
set_option maxRecDepth 20000 in
theorem ggX3_touched_X2_channelOf : GoodIn wsX3_touched wsX2_channelOf := goodIn_r _ [31, 32, 26, 7, 27, 33, 12, 13, 14, 15, 16, 88, 89, 90, 91] (by decide +kernel) (by decide +kernel)
set_option maxRecDepth 20000 in
theorem gX3_touched_X2_channelOf : GoodIn wsX3_touched (wsV RX3 85 RX2 yX2_channelOf wsX2_channelOf) := goodIn_app (goodIn_of _ (by decide +kernel)) ggX3_touched_X2_channelOf
set_option maxRecDepth 20000 in
theorem ggX3_touched_X3_countTouched : GoodIn wsX3_touched wsX3_countTouched := goodIn_r _ [37, 1, 38, 39, 40, 41, 42, 43, 44, 45, 46, 47, 48, 49, 50, 51, 52, 53, 54, 55, 56, 57, 58, 59, 60, 61, 7, 62, 63, 64, 65, 14, 66, 67, 68, 69, 70, 71, 33, 12, 13, 15, 16, 72, 73, 74, 75, 76, 77, 78, 79, 80, 81, 82, 83, 84, 85, 86, 87, 92, 93, 94, 95, 96, 97, 98, 99, 100, 88, 89, 90, 91] (by decide +kernel) (by decide +kernel)
set_option maxRecDepth 20000 in
theorem gX3_touched_X3_countTouched : GoodIn wsX3_touched (wsV RX3 171 RX3 yX3_countTouched wsX3_countTouched) := goodIn_app (goodIn_of _ (by decide +kernel)) ggX3_touched_X3_countTouched
theorem dX3_touched_0 : decode cX3_touched 0 = .ok (.aload_n 0, 1) := by decide +kernel
theorem dX3_touched_1 : decode cX3_touched 1 = .ok (.iload_n 1, 1) := by decide +kernel
theorem dX3_touched_2 : decode cX3_touched 2 = .ok (.invokevirtual 60, 3) := by decide +kernel
theorem dX3_touched_5 : decode cX3_touched 5 = .ok (.iload_n 2, 1) := by decide +kernel
theorem dX3_touched_6 : decode cX3_touched 6 = .ok (.iload_n 3, 1) := by decide +kernel
theorem dX3_touched_7 : decode cX3_touched 7 = .ok (.invokestatic 41, 3) := by decide +kernel
theorem dX3_touched_10 : decode cX3_touched 10 = .ok (.iload 4, 2) := by decide +kernel
theorem dX3_touched_12 : decode cX3_touched 12 = .ok (.invokestatic 79, 3) := by decide +kernel
theorem dX3_touched_15 : decode cX3_touched 15 = .ok (.aload_n 0, 1) := by decide +kernel
theorem dX3_touched_16 : decode cX3_touched 16 = .ok (.getfield 10, 3) := by decide +kernel
theorem dX3_touched_19 : decode cX3_touched 19 = .ok (.iload 4, 2) := by decide +kernel
theorem dX3_touched_21 : decode cX3_touched 21 = .ok (.iload_n 1, 1) := by decide +kernel
theorem dX3_touched_22 : decode cX3_touched 22 = .ok (.invokevirtual 85, 3) := by decide +kernel
theorem dX3_touched_25 : decode cX3_touched 25 = .ok (.istore 5, 2) := by decide +kernel
theorem dX3_touched_27 : decode cX3_touched 27 = .ok (.iload 5, 2) := by decide +kernel
theorem dX3_touched_29 : decode cX3_touched 29 = .ok (.iconst (-1), 1) := by decide +kernel
theorem dX3_touched_30 : decode cX3_touched 30 = .ok (.if_icmp .ne 5, 3) := by decide +kernel
theorem dX3_touched_33 : decode cX3_touched 33 = .ok (.iconst 0, 1) := by decide +kernel
theorem dX3_touched_34 : decode cX3_touched 34 = .ok (.ireturn, 1) := by decide +kernel
theorem dX3_touched_35 : decode cX3_touched 35 = .ok (.aload_n 0, 1) := by decide +kernel
theorem dX3_touched_36 : decode cX3_touched 36 = .ok (.aload_n 0, 1) := by decide +kernel
theorem dX3_touched_37 : decode cX3_touched 37 = .ok (.getfield 19, 3) := by decide +kernel
theorem dX3_touched_40 : decode cX3_touched 40 = .ok (.iload_n 1, 1) := by decide +kernel
theorem dX3_touched_41 : decode cX3_touched 41 = .ok (.iload_n 2, 1) := by decide +kernel
theorem dX3_touched_42 : decode cX3_touched 42 = .ok (.iload_n 3, 1) := by decide +kernel
theorem dX3_touched_43 : decode cX3_touched 43 = .ok (.iload 5, 2) := by decide +kernel
theorem dX3_touched_45 : decode cX3_touched 45 = .ok (.invokevirtual 171, 3) := by decide +kernel
theorem dX3_touched_48 : decode cX3_touched 48 = .ok (.aload_n 0, 1) := by decide +kernel
theorem dX3_touched_49 : decode cX3_touched 49 = .ok (.aload_n 0, 1) := by decide +kernel
theorem dX3_touched_50 : decode cX3_touched 50 = .ok (.getfield 23, 3) := by decide +kernel
theorem dX3_touched_53 : decode cX3_touched 53 = .ok (.iload_n 1, 1) := by decide +kernel
theorem dX3_touched_54 : decode cX3_touched 54 = .ok (.iload_n 2, 1) := by decide +kernel
theorem dX3_touched_55 : decode cX3_touched 55 = .ok (.iload_n 3, 1) := by decide +kernel
theorem dX3_touched_56 : decode cX3_touched 56 = .ok (.iload 5, 2) := by decide +kernel
theorem dX3_touched_58 : decode cX3_touched 58 = .ok (.invokevirtual 171, 3) := by decide +kernel
theorem dX3_touched_61 : decode cX3_touched 61 = .ok (.iadd, 1) := by decide +kernel
theorem dX3_touched_62 : decode cX3_touched 62 = .ok (.ireturn, 1) := by decide +kernel
set_option maxRecDepth 20000 in
theorem ggX3_countTouched_X0_size : GoodIn wsX3_countTouched wsX0_size := goodIn_r _ [6, 7, 59, 60, 61, 62, 63, 64, 65, 66, 67] (by decide +kernel) (by decide +kernel)
set_option maxRecDepth 20000 in
theorem gX3_countTouched_X0_size : GoodIn wsX3_countTouched (wsV RX3 175 RX0 yX0_size wsX0_size) := goodIn_app (goodIn_of _ (by decide +kernel)) ggX3_countTouched_X0_size
set_option maxRecDepth 20000 in
theorem ggX3_countTouched_X0_toldOrZero : GoodIn wsX3_countTouched wsX0_toldOrZero := goodIn_r _ [11, 12, 13, 14, 15, 16, 17, 18, 5, 19, 20, 21, 22, 23, 24, 7, 25, 26, 27, 59, 60, 61, 62, 63, 64, 65, 66, 67] (by decide +kernel) (by decide +kernel)
set_option maxRecDepth 20000 in
theorem gX3_countTouched_X0_toldOrZero : GoodIn wsX3_countTouched (wsV RX3 168 RX0 yX0_toldOrZero wsX0_toldOrZero) := goodIn_app (goodIn_of _ (by decide +kernel)) ggX3_countTouched_X0_toldOrZero
set_option maxRecDepth 20000 in
theorem ggX3_countTouched_X2_shine : GoodIn wsX3_countTouched wsX2_shine := goodIn_r _ [32, 33, 34, 35, 31, 36, 37, 38, 39, 40, 41, 42, 43, 44, 45, 46, 47, 48, 49, 50, 68, 69, 70, 71] (by decide +kernel) (by decide +kernel)
set_option maxRecDepth 20000 in
theorem gX3_countTouched_X2_shine : GoodIn wsX3_countTouched (wsV RX3 176 RX2 yX2_shine wsX2_shine) := goodIn_app (goodIn_of _ (by decide +kernel)) ggX3_countTouched_X2_shine
set_option maxRecDepth 20000 in
theorem ggX3_countTouched_X2_shineOfKind : GoodIn wsX3_countTouched wsX2_shineOfKind := goodIn_r _ [50] (by decide +kernel) (by decide +kernel)
set_option maxRecDepth 20000 in
theorem gX3_countTouched_X2_shineOfKind : GoodIn wsX3_countTouched (va_wsS RX3 179 yX2_shineOfKind wsX2_shineOfKind) := goodIn_app (goodIn_of _ (by decide +kernel)) ggX3_countTouched_X2_shineOfKind
theorem dX3_countTouched_0 : decode cX3_countTouched 0 = .ok (.iconst 0, 1) := by decide +kernel
theorem dX3_countTouched_1 : decode cX3_countTouched 1 = .ok (.istore 6, 2) := by decide +kernel
theorem dX3_countTouched_3 : decode cX3_countTouched 3 = .ok (.iconst 0, 1) := by decide +kernel
theorem dX3_countTouched_4 : decode cX3_countTouched 4 = .ok (.istore 7, 2) := by decide +kernel
theorem dX3_countTouched_6 : decode cX3_countTouched 6 = .ok (.iload 7, 2) := by decide +kernel
theorem dX3_countTouched_8 : decode cX3_countTouched 8 = .ok (.aload_n 1, 1) := by decide +kernel
theorem dX3_countTouched_9 : decode cX3_countTouched 9 = .ok (.invokevirtual 175, 3) := by decide +kernel
theorem dX3_countTouched_12 : decode cX3_countTouched 12 = .ok (.if_icmp .ge 43, 3) := by decide +kernel
theorem dX3_countTouched_15 : decode cX3_countTouched 15 = .ok (.aload_n 1, 1) := by decide +kernel
theorem dX3_countTouched_16 : decode cX3_countTouched 16 = .ok (.iload 7, 2) := by decide +kernel
theorem dX3_countTouched_18 : decode cX3_countTouched 18 = .ok (.iload 5, 2) := by decide +kernel
theorem dX3_countTouched_20 : decode cX3_countTouched 20 = .ok (.invokevirtual 168, 3) := by decide +kernel
theorem dX3_countTouched_23 : decode cX3_countTouched 23 = .ok (.istore 8, 2) := by decide +kernel
theorem dX3_countTouched_25 : decode cX3_countTouched 25 = .ok (.aload_n 0, 1) := by decide +kernel
theorem dX3_countTouched_26 : decode cX3_countTouched 26 = .ok (.getfield 10, 3) := by decide +kernel
theorem dX3_countTouched_29 : decode cX3_countTouched 29 = .ok (.iload_n 2, 1) := by decide +kernel
theorem dX3_countTouched_30 : decode cX3_countTouched 30 = .ok (.iload 8, 2) := by decide +kernel
theorem dX3_countTouched_32 : decode cX3_countTouched 32 = .ok (.invokevirtual 176, 3) := by decide +kernel
theorem dX3_countTouched_35 : decode cX3_countTouched 35 = .ok (.iload_n 3, 1) := by decide +kernel
theorem dX3_countTouched_36 : decode cX3_countTouched 36 = .ok (.iload 4, 2) := by decide +kernel
theorem dX3_countTouched_38 : decode cX3_countTouched 38 = .ok (.iload 8, 2) := by decide +kernel
theorem dX3_countTouched_40 : decode cX3_countTouched 40 = .ok (.invokestatic 179, 3) := by decide +kernel
theorem dX3_countTouched_43 : decode cX3_countTouched 43 = .ok (.if_icmp .eq 6, 3) := by decide +kernel
theorem dX3_countTouched_46 : decode cX3_countTouched 46 = .ok (.iinc 6 1, 3) := by decide +kernel
theorem dX3_countTouched_49 : decode cX3_countTouched 49 = .ok (.iinc 7 1, 3) := by decide +kernel
theorem dX3_countTouched_52 : decode cX3_countTouched 52 = .ok (.goto (-46), 3) := by decide +kernel
theorem dX3_countTouched_55 : decode cX3_countTouched 55 = .ok (.iload 6, 2) := by decide +kernel
theorem dX3_countTouched_57 : decode cX3_countTouched 57 = .ok (.ireturn, 1) := by decide +kernel
set_option maxRecDepth 20000 in
theorem ggX3_mergedNow_X0_levelNow : GoodIn wsX3_mergedNow wsX0_levelNow := goodIn_r _ [13, 14, 15, 16, 17, 18, 19, 20, 21, 22, 12, 23, 24, 25, 26, 27, 36, 37, 38, 39, 40, 41, 42, 43, 44] (by decide +kernel) (by decide +kernel)
set_option maxRecDepth 20000 in
theorem gX3_mergedNow_X0_levelNow : GoodIn wsX3_mergedNow (wsV RX3 158 RX0 yX0_levelNow wsX0_levelNow) := goodIn_app (goodIn_of _ (by decide +kernel)) ggX3_mergedNow_X0_levelNow
set_option maxRecDepth 20000 in
theorem ggX3_mergedNow_X3_isChannel : GoodIn wsX3_mergedNow wsX3_isChannel := goodIn_r _ [27] (by decide +kernel) (by decide +kernel)
set_option maxRecDepth 20000 in
theorem gX3_mergedNow_X3_isChannel : GoodIn wsX3_mergedNow (va_wsS RX3 182 yX3_isChannel wsX3_isChannel) := goodIn_app (goodIn_of _ (by decide +kernel)) ggX3_mergedNow_X3_isChannel
theorem dX3_mergedNow_0 : decode cX3_mergedNow 0 = .ok (.aload_n 0, 1) := by decide +kernel
theorem dX3_mergedNow_1 : decode cX3_mergedNow 1 = .ok (.getfield 19, 3) := by decide +kernel
theorem dX3_mergedNow_4 : decode cX3_mergedNow 4 = .ok (.iload_n 1, 1) := by decide +kernel
theorem dX3_mergedNow_5 : decode cX3_mergedNow 5 = .ok (.invokevirtual 158, 3) := by decide +kernel
theorem dX3_mergedNow_8 : decode cX3_mergedNow 8 = .ok (.istore_n 2, 1) := by decide +kernel
theorem dX3_mergedNow_9 : decode cX3_mergedNow 9 = .ok (.aload_n 0, 1) := by decide +kernel
theorem dX3_mergedNow_10 : decode cX3_mergedNow 10 = .ok (.getfield 23, 3) := by decide +kernel
theorem dX3_mergedNow_13 : decode cX3_mergedNow 13 = .ok (.iload_n 1, 1) := by decide +kernel
theorem dX3_mergedNow_14 : decode cX3_mergedNow 14 = .ok (.invokevirtual 158, 3) := by decide +kernel
theorem dX3_mergedNow_17 : decode cX3_mergedNow 17 = .ok (.istore_n 3, 1) := by decide +kernel
theorem dX3_mergedNow_18 : decode cX3_mergedNow 18 = .ok (.iload_n 1, 1) := by decide +kernel
theorem dX3_mergedNow_19 : decode cX3_mergedNow 19 = .ok (.invokestatic 182, 3) := by decide +kernel
theorem dX3_mergedNow_22 : decode cX3_mergedNow 22 = .ok (.ifCond .eq 27, 3) := by decide +kernel
theorem dX3_mergedNow_25 : decode cX3_mergedNow 25 = .ok (.aload_n 0, 1) := by decide +kernel
theorem dX3_mergedNow_26 : decode cX3_mergedNow 26 = .ok (.getfield 33, 3) := by decide +kernel
theorem dX3_mergedNow_29 : decode cX3_mergedNow 29 = .ok (.iload_n 1, 1) := by decide +kernel
theorem dX3_mergedNow_30 : decode cX3_mergedNow 30 = .ok (.baload, 1) := by decide +kernel
theorem dX3_mergedNow_31 : decode cX3_mergedNow 31 = .ok (.ifCond .eq 18, 3) := by decide +kernel
theorem dX3_mergedNow_34 : decode cX3_mergedNow 34 = .ok (.aload_n 0, 1) := by decide +kernel
theorem dX3_mergedNow_35 : decode cX3_mergedNow 35 = .ok (.getfield 37, 3) := by decide +kernel
theorem dX3_mergedNow_38 : decode cX3_mergedNow 38 = .ok (.iload_n 1, 1) := by decide +kernel
theorem dX3_mergedNow_39 : decode cX3_mergedNow 39 = .ok (.iaload, 1) := by decide +kernel
theorem dX3_mergedNow_40 : decode cX3_mergedNow 40 = .ok (.ifCond .ne 7, 3) := by decide +kernel
theorem dX3_mergedNow_43 : decode cX3_mergedNow 43 = .ok (.iload_n 2, 1) := by decide +kernel
theorem dX3_mergedNow_44 : decode cX3_mergedNow 44 = .ok (.goto 4, 3) := by decide +kernel
theorem dX3_mergedNow_47 : decode cX3_mergedNow 47 = .ok (.iload_n 3, 1) := by decide +kernel
theorem dX3_mergedNow_48 : decode cX3_mergedNow 48 = .ok (.ireturn, 1) := by decide +kernel
theorem dX3_mergedNow_49 : decode cX3_mergedNow 49 = .ok (.iload_n 2, 1) := by decide +kernel
theorem dX3_mergedNow_50 : decode cX3_mergedNow 50 = .ok (.iload_n 3, 1) := by decide +kernel
theorem dX3_mergedNow_51 : decode cX3_mergedNow 51 = .ok (.invokestatic 186, 3) := by decide +kernel
theorem dX3_mergedNow_54 : decode cX3_mergedNow 54 = .ok (.ireturn, 1) := by decide +kernel
set_option maxRecDepth 20000 in
theorem ggX3_beginFrom_X3_cuesOf : GoodIn wsX3_beginFrom wsX3_cuesOf := goodIn_r _ [5, 6, 7, 50, 51, 52, 53, 54, 55, 56] (by decide +kernel) (by decide +kernel)
set_option maxRecDepth 20000 in
theorem gX3_beginFrom_X3_cuesOf : GoodIn wsX3_beginFrom (wsV RX3 104 RX3 yX3_cuesOf wsX3_cuesOf) := goodIn_app (goodIn_of _ (by decide +kernel)) ggX3_beginFrom_X3_cuesOf
set_option maxRecDepth 20000 in
theorem ggX3_beginFrom_X0_begin : GoodIn wsX3_beginFrom wsX0_begin := goodIn_r _ [12, 13, 14, 15, 16, 17, 18, 19, 11, 20, 21, 22, 23, 24, 25, 26, 27, 28, 4, 29, 30, 31, 32, 33, 34, 57, 58, 59, 60, 61, 62, 63, 64, 65] (by decide +kernel) (by decide +kernel)
set_option maxRecDepth 20000 in
theorem gX3_beginFrom_X0_begin : GoodIn wsX3_beginFrom (wsV RX3 191 RX0 yX0_begin wsX0_begin) := goodIn_app (goodIn_of _ (by decide +kernel)) ggX3_beginFrom_X0_begin
set_option maxRecDepth 20000 in
theorem ggX3_beginFrom_X3_noteLatest : GoodIn wsX3_beginFrom wsX3_noteLatest := goodIn_r _ [38, 39, 1, 2, 3, 4, 5, 6, 7, 40, 31, 32, 11, 33, 34, 23, 24, 25, 26, 27, 28, 29, 50, 51, 52, 53, 54, 55, 56, 57, 58, 59, 60, 61, 62, 63, 64, 65] (by decide +kernel) (by decide +kernel)
set_option maxRecDepth 20000 in
theorem gX3_beginFrom_X3_noteLatest : GoodIn wsX3_beginFrom (wsV RX3 194 RX3 yX3_noteLatest wsX3_noteLatest) := goodIn_app (goodIn_of _ (by decide +kernel)) ggX3_beginFrom_X3_noteLatest
set_option maxRecDepth 20000 in
theorem ggX3_beginFrom_X0_isOver : GoodIn wsX3_beginFrom wsX0_isOver := goodIn_r _ [44, 15, 16, 22, 21, 23, 24, 25, 11, 26, 27, 57, 58, 59, 60, 61, 62, 63, 64, 65] (by decide +kernel) (by decide +kernel)
set_option maxRecDepth 20000 in
theorem gX3_beginFrom_X0_isOver : GoodIn wsX3_beginFrom (wsV RX3 197 RX0 yX0_isOver wsX0_isOver) := goodIn_app (goodIn_of _ (by decide +kernel)) ggX3_beginFrom_X0_isOver
set_option maxRecDepth 20000 in
theorem ggX3_beginFrom_X0_follower : GoodIn wsX3_beginFrom wsX0_follower := goodIn_r _ [48, 15, 49, 23, 24, 25, 11, 26, 27, 57, 58, 59, 60, 61, 62, 63, 64, 65] (by decide +kernel) (by decide +kernel)
set_option maxRecDepth 20000 in
theorem gX3_beginFrom_X0_follower : GoodIn wsX3_beginFrom (wsV RX3 200 RX0 yX0_follower wsX0_follower) := goodIn_app (goodIn_of _ (by decide +kernel)) ggX3_beginFrom_X0_follower
theorem dX3_beginFrom_0 : decode cX3_beginFrom 0 = .ok (.aload_n 0, 1) := by decide +kernel
theorem dX3_beginFrom_1 : decode cX3_beginFrom 1 = .ok (.iload_n 1, 1) := by decide +kernel
theorem dX3_beginFrom_2 : decode cX3_beginFrom 2 = .ok (.invokevirtual 104, 3) := by decide +kernel
theorem dX3_beginFrom_5 : decode cX3_beginFrom 5 = .ok (.astore_n 3, 1) := by decide +kernel
theorem dX3_beginFrom_6 : decode cX3_beginFrom 6 = .ok (.iconst 0, 1) := by decide +kernel
theorem dX3_beginFrom_7 : decode cX3_beginFrom 7 = .ok (.istore 4, 2) := by decide +kernel
theorem dX3_beginFrom_9 : decode cX3_beginFrom 9 = .ok (.iload_n 2, 1) := by decide +kernel
theorem dX3_beginFrom_10 : decode cX3_beginFrom 10 = .ok (.istore 5, 2) := by decide +kernel
theorem dX3_beginFrom_12 : decode cX3_beginFrom 12 = .ok (.iload 5, 2) := by decide +kernel
theorem dX3_beginFrom_14 : decode cX3_beginFrom 14 = .ok (.iconst (-1), 1) := by decide +kernel
theorem dX3_beginFrom_15 : decode cX3_beginFrom 15 = .ok (.if_icmp .eq 46, 3) := by decide +kernel
theorem dX3_beginFrom_18 : decode cX3_beginFrom 18 = .ok (.iload 4, 2) := by decide +kernel
theorem dX3_beginFrom_20 : decode cX3_beginFrom 20 = .ok (.bipush 10, 2) := by decide +kernel
theorem dX3_beginFrom_22 : decode cX3_beginFrom 22 = .ok (.if_icmp .ge 39, 3) := by decide +kernel
theorem dX3_beginFrom_25 : decode cX3_beginFrom 25 = .ok (.aload_n 3, 1) := by decide +kernel
theorem dX3_beginFrom_26 : decode cX3_beginFrom 26 = .ok (.iload 5, 2) := by decide +kernel
theorem dX3_beginFrom_28 : decode cX3_beginFrom 28 = .ok (.invokevirtual 191, 3) := by decide +kernel
theorem dX3_beginFrom_31 : decode cX3_beginFrom 31 = .ok (.aload_n 0, 1) := by decide +kernel
theorem dX3_beginFrom_32 : decode cX3_beginFrom 32 = .ok (.iload_n 1, 1) := by decide +kernel
theorem dX3_beginFrom_33 : decode cX3_beginFrom 33 = .ok (.iload 5, 2) := by decide +kernel
theorem dX3_beginFrom_35 : decode cX3_beginFrom 35 = .ok (.invokevirtual 194, 3) := by decide +kernel
theorem dX3_beginFrom_38 : decode cX3_beginFrom 38 = .ok (.iinc 4 1, 3) := by decide +kernel
theorem dX3_beginFrom_41 : decode cX3_beginFrom 41 = .ok (.aload_n 3, 1) := by decide +kernel
theorem dX3_beginFrom_42 : decode cX3_beginFrom 42 = .ok (.invokevirtual 197, 3) := by decide +kernel
theorem dX3_beginFrom_45 : decode cX3_beginFrom 45 = .ok (.ifCond .eq 10, 3) := by decide +kernel
theorem dX3_beginFrom_48 : decode cX3_beginFrom 48 = .ok (.aload_n 3, 1) := by decide +kernel
theorem dX3_beginFrom_49 : decode cX3_beginFrom 49 = .ok (.invokevirtual 200, 3) := by decide +kernel
theorem dX3_beginFrom_52 : decode cX3_beginFrom 52 = .ok (.goto 4, 3) := by decide +kernel
theorem dX3_beginFrom_55 : decode cX3_beginFrom 55 = .ok (.iconst (-1), 1) := by decide +kernel
theorem dX3_beginFrom_56 : decode cX3_beginFrom 56 = .ok (.istore 5, 2) := by decide +kernel
theorem dX3_beginFrom_58 : decode cX3_beginFrom 58 = .ok (.goto (-46), 3) := by decide +kernel
theorem dX3_beginFrom_61 : decode cX3_beginFrom 61 = .ok (.iload 4, 2) := by decide +kernel
theorem dX3_beginFrom_63 : decode cX3_beginFrom 63 = .ok (.ireturn, 1) := by decide +kernel
