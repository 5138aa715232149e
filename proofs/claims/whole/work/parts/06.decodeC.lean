theorem dX4_lightOf_48 : decode cX4_lightOf 48 = .ok (.iaload, 1) := by decide +kernel
theorem dX4_lightOf_49 : decode cX4_lightOf 49 = .ok (.iload_n 3, 1) := by decide +kernel
theorem dX4_lightOf_50 : decode cX4_lightOf 50 = .ok (.invokestatic 123, 3) := by decide +kernel
theorem dX4_lightOf_53 : decode cX4_lightOf 53 = .ok (.goto 4, 3) := by decide +kernel
theorem dX4_lightOf_56 : decode cX4_lightOf 56 = .ok (.iconst 0, 1) := by decide +kernel
theorem dX4_lightOf_57 : decode cX4_lightOf 57 = .ok (.iadd, 1) := by decide +kernel
theorem dX4_lightOf_58 : decode cX4_lightOf 58 = .ok (.istore 4, 2) := by decide +kernel
theorem dX4_lightOf_60 : decode cX4_lightOf 60 = .ok (.iinc 5 1, 3) := by decide +kernel
theorem dX4_lightOf_63 : decode cX4_lightOf 63 = .ok (.goto (-57), 3) := by decide +kernel
theorem dX4_lightOf_66 : decode cX4_lightOf 66 = .ok (.iload 4, 2) := by decide +kernel
theorem dX4_lightOf_68 : decode cX4_lightOf 68 = .ok (.ireturn, 1) := by decide +kernel
set_option maxRecDepth 20000 in
theorem ggX4_light_X4_isChannel : GoodIn wsX4_light wsX4_isChannel := goodIn_r _ [6, 7, 8, 5, 9] (by decide +kernel) (by decide +kernel)
set_option maxRecDepth 20000 in
theorem gX4_light_X4_isChannel : GoodIn wsX4_light (va_wsS RX4 93 yX4_isChannel wsX4_isChannel) := goodIn_app (goodIn_of _ (by decide +kernel)) ggX4_light_X4_isChannel
set_option maxRecDepth 20000 in
theorem ggX4_light_X4_mergedOf : GoodIn wsX4_light wsX4_mergedOf := goodIn_r _ [13, 14, 15, 16, 17, 18, 5, 19, 20, 21, 22, 23, 24, 25, 26, 38, 39, 40, 41, 42, 43, 44, 45, 46, 47, 48, 49, 50, 51, 52, 53, 54, 55, 56, 57, 58, 59, 60] (by decide +kernel) (by decide +kernel)
set_option maxRecDepth 20000 in
theorem gX4_light_X4_mergedOf : GoodIn wsX4_light (wsV RX4 120 RX4 yX4_mergedOf wsX4_mergedOf) := goodIn_app (goodIn_of _ (by decide +kernel)) ggX4_light_X4_mergedOf
set_option maxRecDepth 20000 in
theorem ggX4_light_X4_lightOf : GoodIn wsX4_light wsX4_lightOf := goodIn_r _ [30, 31, 32, 33, 34, 35, 36, 5, 37, 38, 39, 40, 41, 42, 43, 44, 45, 46, 47, 48, 49, 50, 51, 52, 53, 54, 55, 56, 57, 58, 59, 60] (by decide +kernel) (by decide +kernel)
set_option maxRecDepth 20000 in
theorem gX4_light_X4_lightOf : GoodIn wsX4_light (wsV RX4 127 RX4 yX4_lightOf wsX4_lightOf) := goodIn_app (goodIn_of _ (by decide +kernel)) ggX4_light_X4_lightOf
theorem dX4_light_0 : decode cX4_light 0 = .ok (.aload_n 0, 1) := by decide +kernel
theorem dX4_light_1 : decode cX4_light 1 = .ok (.iload_n 1, 1) := by decide +kernel
theorem dX4_light_2 : decode cX4_light 2 = .ok (.invokestatic 93, 3) := by decide +kernel
theorem dX4_light_5 : decode cX4_light 5 = .ok (.ifCond .eq 7, 3) := by decide +kernel
theorem dX4_light_8 : decode cX4_light 8 = .ok (.iconst 0, 1) := by decide +kernel
theorem dX4_light_9 : decode cX4_light 9 = .ok (.goto 4, 3) := by decide +kernel
theorem dX4_light_12 : decode cX4_light 12 = .ok (.iconst 1, 1) := by decide +kernel
theorem dX4_light_13 : decode cX4_light 13 = .ok (.putfield 64, 3) := by decide +kernel
theorem dX4_light_16 : decode cX4_light 16 = .ok (.aload_n 0, 1) := by decide +kernel
theorem dX4_light_17 : decode cX4_light 17 = .ok (.getfield 64, 3) := by decide +kernel
theorem dX4_light_20 : decode cX4_light 20 = .ok (.ifCond .ne 20, 3) := by decide +kernel
theorem dX4_light_23 : decode cX4_light 23 = .ok (.aload_n 0, 1) := by decide +kernel
theorem dX4_light_24 : decode cX4_light 24 = .ok (.aload_n 0, 1) := by decide +kernel
theorem dX4_light_25 : decode cX4_light 25 = .ok (.getfield 96, 3) := by decide +kernel
theorem dX4_light_28 : decode cX4_light 28 = .ok (.iload_n 1, 1) := by decide +kernel
theorem dX4_light_29 : decode cX4_light 29 = .ok (.aload_n 0, 1) := by decide +kernel
theorem dX4_light_30 : decode cX4_light 30 = .ok (.iload_n 1, 1) := by decide +kernel
theorem dX4_light_31 : decode cX4_light 31 = .ok (.invokevirtual 120, 3) := by decide +kernel
theorem dX4_light_34 : decode cX4_light 34 = .ok (.invokevirtual 127, 3) := by decide +kernel
theorem dX4_light_37 : decode cX4_light 37 = .ok (.goto 4, 3) := by decide +kernel
theorem dX4_light_40 : decode cX4_light 40 = .ok (.iconst 0, 1) := by decide +kernel
theorem dX4_light_41 : decode cX4_light 41 = .ok (.ireturn, 1) := by decide +kernel
set_option maxRecDepth 20000 in
theorem ggX4_allLight_X4_mergedOf : GoodIn wsX4_allLight wsX4_mergedOf := goodIn_r _ [7, 8, 9, 10, 11, 12, 6, 13, 14, 15, 16, 17, 18, 19, 20, 32, 33, 34, 35, 36, 37, 38, 39, 40, 41, 42, 43, 44, 45, 46, 47, 48, 49, 50, 51, 52, 53, 54] (by decide +kernel) (by decide +kernel)
set_option maxRecDepth 20000 in
theorem gX4_allLight_X4_mergedOf : GoodIn wsX4_allLight (wsV RX4 120 RX4 yX4_mergedOf wsX4_mergedOf) := goodIn_app (goodIn_of _ (by decide +kernel)) ggX4_allLight_X4_mergedOf
set_option maxRecDepth 20000 in
theorem ggX4_allLight_X4_lightOf : GoodIn wsX4_allLight wsX4_lightOf := goodIn_r _ [24, 25, 26, 27, 28, 29, 30, 6, 31, 32, 33, 34, 35, 36, 37, 38, 39, 40, 41, 42, 43, 44, 45, 46, 47, 48, 49, 50, 51, 52, 53, 54] (by decide +kernel) (by decide +kernel)
set_option maxRecDepth 20000 in
theorem gX4_allLight_X4_lightOf : GoodIn wsX4_allLight (wsV RX4 127 RX4 yX4_lightOf wsX4_lightOf) := goodIn_app (goodIn_of _ (by decide +kernel)) ggX4_allLight_X4_lightOf
theorem dX4_allLight_0 : decode cX4_allLight 0 = .ok (.aload_n 0, 1) := by decide +kernel
theorem dX4_allLight_1 : decode cX4_allLight 1 = .ok (.iconst 0, 1) := by decide +kernel
theorem dX4_allLight_2 : decode cX4_allLight 2 = .ok (.putfield 64, 3) := by decide +kernel
theorem dX4_allLight_5 : decode cX4_allLight 5 = .ok (.iconst 0, 1) := by decide +kernel
theorem dX4_allLight_6 : decode cX4_allLight 6 = .ok (.istore_n 1, 1) := by decide +kernel
theorem dX4_allLight_7 : decode cX4_allLight 7 = .ok (.iconst 0, 1) := by decide +kernel
theorem dX4_allLight_8 : decode cX4_allLight 8 = .ok (.istore_n 2, 1) := by decide +kernel
theorem dX4_allLight_9 : decode cX4_allLight 9 = .ok (.iload_n 2, 1) := by decide +kernel
theorem dX4_allLight_10 : decode cX4_allLight 10 = .ok (.bipush 12, 2) := by decide +kernel
theorem dX4_allLight_12 : decode cX4_allLight 12 = .ok (.if_icmp .ge 26, 3) := by decide +kernel
theorem dX4_allLight_15 : decode cX4_allLight 15 = .ok (.iload_n 1, 1) := by decide +kernel
theorem dX4_allLight_16 : decode cX4_allLight 16 = .ok (.aload_n 0, 1) := by decide +kernel
theorem dX4_allLight_17 : decode cX4_allLight 17 = .ok (.aload_n 0, 1) := by decide +kernel
theorem dX4_allLight_18 : decode cX4_allLight 18 = .ok (.getfield 96, 3) := by decide +kernel
theorem dX4_allLight_21 : decode cX4_allLight 21 = .ok (.iload_n 2, 1) := by decide +kernel
theorem dX4_allLight_22 : decode cX4_allLight 22 = .ok (.aload_n 0, 1) := by decide +kernel
theorem dX4_allLight_23 : decode cX4_allLight 23 = .ok (.iload_n 2, 1) := by decide +kernel
theorem dX4_allLight_24 : decode cX4_allLight 24 = .ok (.invokevirtual 120, 3) := by decide +kernel
theorem dX4_allLight_27 : decode cX4_allLight 27 = .ok (.invokevirtual 127, 3) := by decide +kernel
theorem dX4_allLight_30 : decode cX4_allLight 30 = .ok (.iadd, 1) := by decide +kernel
theorem dX4_allLight_31 : decode cX4_allLight 31 = .ok (.istore_n 1, 1) := by decide +kernel
theorem dX4_allLight_32 : decode cX4_allLight 32 = .ok (.iinc 2 1, 3) := by decide +kernel
theorem dX4_allLight_35 : decode cX4_allLight 35 = .ok (.goto (-26), 3) := by decide +kernel
theorem dX4_allLight_38 : decode cX4_allLight 38 = .ok (.iload_n 1, 1) := by decide +kernel
theorem dX4_allLight_39 : decode cX4_allLight 39 = .ok (.ireturn, 1) := by decide +kernel
set_option maxRecDepth 20000 in
theorem ggX4_shown_X4_lightOf : GoodIn wsX4_shown wsX4_lightOf := goodIn_r _ [6, 7, 8, 9, 10, 11, 12, 5, 13, 14, 15, 16, 17, 18, 19, 20, 21, 22, 23, 24, 25, 26, 27, 28, 29, 30, 31, 32, 33, 34, 35, 36] (by decide +kernel) (by decide +kernel)
set_option maxRecDepth 20000 in
theorem gX4_shown_X4_lightOf : GoodIn wsX4_shown (wsV RX4 127 RX4 yX4_lightOf wsX4_lightOf) := goodIn_app (goodIn_of _ (by decide +kernel)) ggX4_shown_X4_lightOf
theorem dX4_shown_0 : decode cX4_shown 0 = .ok (.iconst 0, 1) := by decide +kernel
theorem dX4_shown_1 : decode cX4_shown 1 = .ok (.istore 4, 2) := by decide +kernel
theorem dX4_shown_3 : decode cX4_shown 3 = .ok (.iconst 0, 1) := by decide +kernel
theorem dX4_shown_4 : decode cX4_shown 4 = .ok (.istore 5, 2) := by decide +kernel
theorem dX4_shown_6 : decode cX4_shown 6 = .ok (.iload 5, 2) := by decide +kernel
theorem dX4_shown_8 : decode cX4_shown 8 = .ok (.bipush 12, 2) := by decide +kernel
theorem dX4_shown_10 : decode cX4_shown 10 = .ok (.if_icmp .ge 53, 3) := by decide +kernel
theorem dX4_shown_13 : decode cX4_shown 13 = .ok (.aload_n 0, 1) := by decide +kernel
theorem dX4_shown_14 : decode cX4_shown 14 = .ok (.getfield 37, 3) := by decide +kernel
theorem dX4_shown_17 : decode cX4_shown 17 = .ok (.bipush 12, 2) := by decide +kernel
theorem dX4_shown_19 : decode cX4_shown 19 = .ok (.bipush 10, 2) := by decide +kernel
theorem dX4_shown_21 : decode cX4_shown 21 = .ok (.iload_n 1, 1) := by decide +kernel
theorem dX4_shown_22 : decode cX4_shown 22 = .ok (.imul, 1) := by decide +kernel
theorem dX4_shown_23 : decode cX4_shown 23 = .ok (.iload_n 2, 1) := by decide +kernel
theorem dX4_shown_24 : decode cX4_shown 24 = .ok (.iadd, 1) := by decide +kernel
theorem dX4_shown_25 : decode cX4_shown 25 = .ok (.imul, 1) := by decide +kernel
theorem dX4_shown_26 : decode cX4_shown 26 = .ok (.iload 5, 2) := by decide +kernel
theorem dX4_shown_28 : decode cX4_shown 28 = .ok (.iadd, 1) := by decide +kernel
theorem dX4_shown_29 : decode cX4_shown 29 = .ok (.iaload, 1) := by decide +kernel
theorem dX4_shown_30 : decode cX4_shown 30 = .ok (.istore 6, 2) := by decide +kernel
theorem dX4_shown_32 : decode cX4_shown 32 = .ok (.iload 4, 2) := by decide +kernel
theorem dX4_shown_34 : decode cX4_shown 34 = .ok (.iload 6, 2) := by decide +kernel
theorem dX4_shown_36 : decode cX4_shown 36 = .ok (.ifCond .le 17, 3) := by decide +kernel
theorem dX4_shown_39 : decode cX4_shown 39 = .ok (.aload_n 0, 1) := by decide +kernel
theorem dX4_shown_40 : decode cX4_shown 40 = .ok (.iload_n 3, 1) := by decide +kernel
theorem dX4_shown_41 : decode cX4_shown 41 = .ok (.iload 5, 2) := by decide +kernel
theorem dX4_shown_43 : decode cX4_shown 43 = .ok (.iload 6, 2) := by decide +kernel
theorem dX4_shown_45 : decode cX4_shown 45 = .ok (.iconst 1, 1) := by decide +kernel
theorem dX4_shown_46 : decode cX4_shown 46 = .ok (.isub, 1) := by decide +kernel
theorem dX4_shown_47 : decode cX4_shown 47 = .ok (.invokevirtual 127, 3) := by decide +kernel
theorem dX4_shown_50 : decode cX4_shown 50 = .ok (.goto 4, 3) := by decide +kernel
theorem dX4_shown_53 : decode cX4_shown 53 = .ok (.iconst 0, 1) := by decide +kernel
theorem dX4_shown_54 : decode cX4_shown 54 = .ok (.iadd, 1) := by decide +kernel
theorem dX4_shown_55 : decode cX4_shown 55 = .ok (.istore 4, 2) := by decide +kernel
theorem dX4_shown_57 : decode cX4_shown 57 = .ok (.iinc 5 1, 3) := by decide +kernel
theorem dX4_shown_60 : decode cX4_shown 60 = .ok (.goto (-54), 3) := by decide +kernel
theorem dX4_shown_63 : decode cX4_shown 63 = .ok (.iload 4, 2) := by decide +kernel
theorem dX4_shown_65 : decode cX4_shown 65 = .ok (.ireturn, 1) := by decide +kernel
set_option maxRecDepth 20000 in
theorem ggX4_preview_X4_isList : GoodIn wsX4_preview wsX4_isList := goodIn_r _ [6, 7, 8, 5, 9] (by decide +kernel) (by decide +kernel)
set_option maxRecDepth 20000 in
theorem gX4_preview_X4_isList : GoodIn wsX4_preview (va_wsS RX4 99 yX4_isList wsX4_isList) := goodIn_app (goodIn_of _ (by decide +kernel)) ggX4_preview_X4_isList
set_option maxRecDepth 20000 in
theorem ggX4_preview_X4_isNight : GoodIn wsX4_preview wsX4_isNight := goodIn_r _ [12, 7, 8, 5, 9] (by decide +kernel) (by decide +kernel)
set_option maxRecDepth 20000 in
theorem gX4_preview_X4_isNight : GoodIn wsX4_preview (va_wsS RX4 90 yX4_isNight wsX4_isNight) := goodIn_app (goodIn_of _ (by decide +kernel)) ggX4_preview_X4_isNight
set_option maxRecDepth 20000 in
theorem ggX4_preview_X4_in : GoodIn wsX4_preview wsX4_in := goodIn_r _ [9] (by decide +kernel) (by decide +kernel)
set_option maxRecDepth 20000 in
theorem gX4_preview_X4_in : GoodIn wsX4_preview (va_wsS RX4 68 yX4_in wsX4_in) := goodIn_app (goodIn_of _ (by decide +kernel)) ggX4_preview_X4_in
set_option maxRecDepth 20000 in
theorem ggX4_preview_X4_shown : GoodIn wsX4_preview wsX4_shown := goodIn_r _ [16, 17, 18, 19, 20, 5, 21, 22, 23, 24, 25, 26, 27, 28, 29, 30, 31, 32, 33, 34, 35, 36, 37, 38, 39, 40, 41, 42, 43, 44, 45, 46, 47, 48, 49, 50, 51] (by decide +kernel) (by decide +kernel)
set_option maxRecDepth 20000 in
theorem gX4_preview_X4_shown : GoodIn wsX4_preview (wsV RX4 130 RX4 yX4_shown wsX4_shown) := goodIn_app (goodIn_of _ (by decide +kernel)) ggX4_preview_X4_shown
theorem dX4_preview_0 : decode cX4_preview 0 = .ok (.aload_n 0, 1) := by decide +kernel
theorem dX4_preview_1 : decode cX4_preview 1 = .ok (.iload_n 1, 1) := by decide +kernel
theorem dX4_preview_2 : decode cX4_preview 2 = .ok (.invokestatic 99, 3) := by decide +kernel
theorem dX4_preview_5 : decode cX4_preview 5 = .ok (.ifCond .eq 10, 3) := by decide +kernel
theorem dX4_preview_8 : decode cX4_preview 8 = .ok (.iload_n 3, 1) := by decide +kernel
theorem dX4_preview_9 : decode cX4_preview 9 = .ok (.invokestatic 90, 3) := by decide +kernel
theorem dX4_preview_12 : decode cX4_preview 12 = .ok (.ifCond .ne 7, 3) := by decide +kernel
theorem dX4_preview_15 : decode cX4_preview 15 = .ok (.iconst 1, 1) := by decide +kernel
theorem dX4_preview_16 : decode cX4_preview 16 = .ok (.goto 24, 3) := by decide +kernel
theorem dX4_preview_19 : decode cX4_preview 19 = .ok (.iload_n 2, 1) := by decide +kernel
theorem dX4_preview_20 : decode cX4_preview 20 = .ok (.iconst 0, 1) := by decide +kernel
theorem dX4_preview_21 : decode cX4_preview 21 = .ok (.aload_n 0, 1) := by decide +kernel
theorem dX4_preview_22 : decode cX4_preview 22 = .ok (.getfield 25, 3) := by decide +kernel
theorem dX4_preview_25 : decode cX4_preview 25 = .ok (.iload_n 1, 1) := by decide +kernel
theorem dX4_preview_26 : decode cX4_preview 26 = .ok (.iaload, 1) := by decide +kernel
theorem dX4_preview_27 : decode cX4_preview 27 = .ok (.iconst 1, 1) := by decide +kernel
theorem dX4_preview_28 : decode cX4_preview 28 = .ok (.isub, 1) := by decide +kernel
theorem dX4_preview_29 : decode cX4_preview 29 = .ok (.invokestatic 68, 3) := by decide +kernel
theorem dX4_preview_32 : decode cX4_preview 32 = .ok (.ifCond .ne 7, 3) := by decide +kernel
theorem dX4_preview_35 : decode cX4_preview 35 = .ok (.iconst 2, 1) := by decide +kernel
theorem dX4_preview_36 : decode cX4_preview 36 = .ok (.goto 4, 3) := by decide +kernel
theorem dX4_preview_39 : decode cX4_preview 39 = .ok (.iconst 0, 1) := by decide +kernel
theorem dX4_preview_40 : decode cX4_preview 40 = .ok (.putfield 64, 3) := by decide +kernel
theorem dX4_preview_43 : decode cX4_preview 43 = .ok (.aload_n 0, 1) := by decide +kernel
theorem dX4_preview_44 : decode cX4_preview 44 = .ok (.getfield 64, 3) := by decide +kernel
theorem dX4_preview_47 : decode cX4_preview 47 = .ok (.ifCond .ne 13, 3) := by decide +kernel
theorem dX4_preview_50 : decode cX4_preview 50 = .ok (.aload_n 0, 1) := by decide +kernel
theorem dX4_preview_51 : decode cX4_preview 51 = .ok (.iload_n 1, 1) := by decide +kernel
theorem dX4_preview_52 : decode cX4_preview 52 = .ok (.iload_n 2, 1) := by decide +kernel
theorem dX4_preview_53 : decode cX4_preview 53 = .ok (.iload_n 3, 1) := by decide +kernel
theorem dX4_preview_54 : decode cX4_preview 54 = .ok (.invokevirtual 130, 3) := by decide +kernel
theorem dX4_preview_57 : decode cX4_preview 57 = .ok (.goto 4, 3) := by decide +kernel
theorem dX4_preview_60 : decode cX4_preview 60 = .ok (.iconst 0, 1) := by decide +kernel
theorem dX4_preview_61 : decode cX4_preview 61 = .ok (.ireturn, 1) := by decide +kernel
set_option maxRecDepth 20000 in
theorem ggX4_touched_X4_isLamp : GoodIn wsX4_touched wsX4_isLamp := goodIn_r _ [11, 12, 13, 14, 10, 15, 25, 26, 27, 28, 29, 30, 31, 32, 33, 34, 35, 36, 37, 38, 39, 40, 41, 42, 43, 44, 45, 46, 47] (by decide +kernel) (by decide +kernel)
set_option maxRecDepth 20000 in
theorem gX4_touched_X4_isLamp : GoodIn wsX4_touched (wsV RX4 82 RX4 yX4_isLamp wsX4_isLamp) := goodIn_app (goodIn_of _ (by decide +kernel)) ggX4_touched_X4_isLamp
set_option maxRecDepth 20000 in
theorem ggX4_touched_X4_isMade : GoodIn wsX4_touched wsX4_isMade := goodIn_r _ [18, 13, 14, 10, 15] (by decide +kernel) (by decide +kernel)
set_option maxRecDepth 20000 in
theorem gX4_touched_X4_isMade : GoodIn wsX4_touched (va_wsS RX4 78 yX4_isMade wsX4_isMade) := goodIn_app (goodIn_of _ (by decide +kernel)) ggX4_touched_X4_isMade
set_option maxRecDepth 20000 in
theorem ggX4_touched_X4_isNight : GoodIn wsX4_touched wsX4_isNight := goodIn_r _ [21, 13, 14, 10, 15] (by decide +kernel) (by decide +kernel)
set_option maxRecDepth 20000 in
theorem gX4_touched_X4_isNight : GoodIn wsX4_touched (va_wsS RX4 90 yX4_isNight wsX4_isNight) := goodIn_app (goodIn_of _ (by decide +kernel)) ggX4_touched_X4_isNight
set_option maxRecDepth 20000 in
theorem ggX4_touched_X4_through : GoodIn wsX4_touched wsX4_through := goodIn_r _ [24] (by decide +kernel) (by decide +kernel)
set_option maxRecDepth 20000 in
theorem gX4_touched_X4_through : GoodIn wsX4_touched (va_wsS RX4 123 yX4_through wsX4_through) := goodIn_app (goodIn_of _ (by decide +kernel)) ggX4_touched_X4_through
theorem dX4_touched_0 : decode cX4_touched 0 = .ok (.aload_n 0, 1) := by decide +kernel
theorem dX4_touched_1 : decode cX4_touched 1 = .ok (.aload_n 0, 1) := by decide +kernel
theorem dX4_touched_2 : decode cX4_touched 2 = .ok (.iload_n 1, 1) := by decide +kernel
theorem dX4_touched_3 : decode cX4_touched 3 = .ok (.invokevirtual 82, 3) := by decide +kernel
theorem dX4_touched_6 : decode cX4_touched 6 = .ok (.ifCond .ne 7, 3) := by decide +kernel
theorem dX4_touched_9 : decode cX4_touched 9 = .ok (.iconst 1, 1) := by decide +kernel
theorem dX4_touched_10 : decode cX4_touched 10 = .ok (.goto 24, 3) := by decide +kernel
theorem dX4_touched_13 : decode cX4_touched 13 = .ok (.iload_n 2, 1) := by decide +kernel
theorem dX4_touched_14 : decode cX4_touched 14 = .ok (.iload_n 3, 1) := by decide +kernel
theorem dX4_touched_15 : decode cX4_touched 15 = .ok (.invokestatic 78, 3) := by decide +kernel
theorem dX4_touched_18 : decode cX4_touched 18 = .ok (.ifCond .eq 11, 3) := by decide +kernel
theorem dX4_touched_21 : decode cX4_touched 21 = .ok (.iload 4, 2) := by decide +kernel
theorem dX4_touched_23 : decode cX4_touched 23 = .ok (.invokestatic 90, 3) := by decide +kernel
theorem dX4_touched_26 : decode cX4_touched 26 = .ok (.ifCond .ne 7, 3) := by decide +kernel
theorem dX4_touched_29 : decode cX4_touched 29 = .ok (.iconst 2, 1) := by decide +kernel
theorem dX4_touched_30 : decode cX4_touched 30 = .ok (.goto 4, 3) := by decide +kernel
theorem dX4_touched_33 : decode cX4_touched 33 = .ok (.iconst 0, 1) := by decide +kernel
theorem dX4_touched_34 : decode cX4_touched 34 = .ok (.putfield 64, 3) := by decide +kernel
theorem dX4_touched_37 : decode cX4_touched 37 = .ok (.iconst 0, 1) := by decide +kernel
theorem dX4_touched_38 : decode cX4_touched 38 = .ok (.istore 5, 2) := by decide +kernel
theorem dX4_touched_40 : decode cX4_touched 40 = .ok (.iconst 0, 1) := by decide +kernel
theorem dX4_touched_41 : decode cX4_touched 41 = .ok (.istore 6, 2) := by decide +kernel
theorem dX4_touched_43 : decode cX4_touched 43 = .ok (.iload 6, 2) := by decide +kernel
theorem dX4_touched_45 : decode cX4_touched 45 = .ok (.bipush 20, 2) := by decide +kernel
theorem dX4_touched_47 : decode cX4_touched 47 = .ok (.if_icmp .ge 132, 3) := by decide +kernel
theorem dX4_touched_50 : decode cX4_touched 50 = .ok (.aload_n 0, 1) := by decide +kernel
theorem dX4_touched_51 : decode cX4_touched 51 = .ok (.getfield 64, 3) := by decide +kernel
theorem dX4_touched_54 : decode cX4_touched 54 = .ok (.ifCond .ne 125, 3) := by decide +kernel
theorem dX4_touched_57 : decode cX4_touched 57 = .ok (.aload_n 0, 1) := by decide +kernel
theorem dX4_touched_58 : decode cX4_touched 58 = .ok (.getfield 16, 3) := by decide +kernel
theorem dX4_touched_61 : decode cX4_touched 61 = .ok (.bipush 20, 2) := by decide +kernel
theorem dX4_touched_63 : decode cX4_touched 63 = .ok (.iload 4, 2) := by decide +kernel
theorem dX4_touched_65 : decode cX4_touched 65 = .ok (.imul, 1) := by decide +kernel
theorem dX4_touched_66 : decode cX4_touched 66 = .ok (.iload_n 1, 1) := by decide +kernel
theorem dX4_touched_67 : decode cX4_touched 67 = .ok (.iadd, 1) := by decide +kernel
theorem dX4_touched_68 : decode cX4_touched 68 = .ok (.iaload, 1) := by decide +kernel
theorem dX4_touched_69 : decode cX4_touched 69 = .ok (.iconst 1, 1) := by decide +kernel
theorem dX4_touched_70 : decode cX4_touched 70 = .ok (.isub, 1) := by decide +kernel
theorem dX4_touched_71 : decode cX4_touched 71 = .ok (.istore 7, 2) := by decide +kernel
theorem dX4_touched_73 : decode cX4_touched 73 = .ok (.iload 6, 2) := by decide +kernel
theorem dX4_touched_75 : decode cX4_touched 75 = .ok (.bipush 10, 2) := by decide +kernel
theorem dX4_touched_77 : decode cX4_touched 77 = .ok (.irem, 1) := by decide +kernel
theorem dX4_touched_78 : decode cX4_touched 78 = .ok (.aload_n 0, 1) := by decide +kernel
theorem dX4_touched_79 : decode cX4_touched 79 = .ok (.getfield 25, 3) := by decide +kernel
theorem dX4_touched_82 : decode cX4_touched 82 = .ok (.iload 6, 2) := by decide +kernel
theorem dX4_touched_84 : decode cX4_touched 84 = .ok (.bipush 10, 2) := by decide +kernel
theorem dX4_touched_86 : decode cX4_touched 86 = .ok (.idiv, 1) := by decide +kernel
theorem dX4_touched_87 : decode cX4_touched 87 = .ok (.iaload, 1) := by decide +kernel
theorem dX4_touched_88 : decode cX4_touched 88 = .ok (.if_icmp .ge 13, 3) := by decide +kernel
theorem dX4_touched_91 : decode cX4_touched 91 = .ok (.iload 7, 2) := by decide +kernel
theorem dX4_touched_93 : decode cX4_touched 93 = .ok (.iconst (-1), 1) := by decide +kernel
theorem dX4_touched_94 : decode cX4_touched 94 = .ok (.if_icmp .eq 7, 3) := by decide +kernel
theorem dX4_touched_97 : decode cX4_touched 97 = .ok (.iconst 1, 1) := by decide +kernel
theorem dX4_touched_98 : decode cX4_touched 98 = .ok (.goto 4, 3) := by decide +kernel
theorem dX4_touched_101 : decode cX4_touched 101 = .ok (.iconst 0, 1) := by decide +kernel
theorem dX4_touched_102 : decode cX4_touched 102 = .ok (.istore 8, 2) := by decide +kernel
theorem dX4_touched_104 : decode cX4_touched 104 = .ok (.iload 8, 2) := by decide +kernel
theorem dX4_touched_106 : decode cX4_touched 106 = .ok (.ifCond .eq 21, 3) := by decide +kernel
theorem dX4_touched_109 : decode cX4_touched 109 = .ok (.aload_n 0, 1) := by decide +kernel
theorem dX4_touched_110 : decode cX4_touched 110 = .ok (.getfield 37, 3) := by decide +kernel
theorem dX4_touched_113 : decode cX4_touched 113 = .ok (.bipush 12, 2) := by decide +kernel
theorem dX4_touched_115 : decode cX4_touched 115 = .ok (.iload 6, 2) := by decide +kernel
theorem dX4_touched_117 : decode cX4_touched 117 = .ok (.imul, 1) := by decide +kernel
theorem dX4_touched_118 : decode cX4_touched 118 = .ok (.iload 7, 2) := by decide +kernel
theorem dX4_touched_120 : decode cX4_touched 120 = .ok (.iadd, 1) := by decide +kernel
theorem dX4_touched_121 : decode cX4_touched 121 = .ok (.iaload, 1) := by decide +kernel
theorem dX4_touched_122 : decode cX4_touched 122 = .ok (.iconst 1, 1) := by decide +kernel
theorem dX4_touched_123 : decode cX4_touched 123 = .ok (.isub, 1) := by decide +kernel
theorem dX4_touched_124 : decode cX4_touched 124 = .ok (.goto 4, 3) := by decide +kernel
theorem dX4_touched_127 : decode cX4_touched 127 = .ok (.iconst (-1), 1) := by decide +kernel
theorem dX4_touched_128 : decode cX4_touched 128 = .ok (.istore 9, 2) := by decide +kernel
theorem dX4_touched_130 : decode cX4_touched 130 = .ok (.iload 5, 2) := by decide +kernel
theorem dX4_touched_132 : decode cX4_touched 132 = .ok (.iload 9, 2) := by decide +kernel
theorem dX4_touched_134 : decode cX4_touched 134 = .ok (.iconst (-1), 1) := by decide +kernel
theorem dX4_touched_135 : decode cX4_touched 135 = .ok (.if_icmp .eq 34, 3) := by decide +kernel
theorem dX4_touched_138 : decode cX4_touched 138 = .ok (.iload_n 2, 1) := by decide +kernel
theorem dX4_touched_139 : decode cX4_touched 139 = .ok (.iload_n 3, 1) := by decide +kernel
theorem dX4_touched_140 : decode cX4_touched 140 = .ok (.iload 9, 2) := by decide +kernel
theorem dX4_touched_142 : decode cX4_touched 142 = .ok (.invokestatic 123, 3) := by decide +kernel
theorem dX4_touched_145 : decode cX4_touched 145 = .ok (.aload_n 0, 1) := by decide +kernel
theorem dX4_touched_146 : decode cX4_touched 146 = .ok (.getfield 7, 3) := by decide +kernel
theorem dX4_touched_149 : decode cX4_touched 149 = .ok (.iload_n 1, 1) := by decide +kernel
theorem dX4_touched_150 : decode cX4_touched 150 = .ok (.iaload, 1) := by decide +kernel
theorem dX4_touched_151 : decode cX4_touched 151 = .ok (.aload_n 0, 1) := by decide +kernel
theorem dX4_touched_152 : decode cX4_touched 152 = .ok (.getfield 13, 3) := by decide +kernel
theorem dX4_touched_155 : decode cX4_touched 155 = .ok (.iload_n 1, 1) := by decide +kernel
theorem dX4_touched_156 : decode cX4_touched 156 = .ok (.iaload, 1) := by decide +kernel
theorem dX4_touched_157 : decode cX4_touched 157 = .ok (.iload 9, 2) := by decide +kernel
theorem dX4_touched_159 : decode cX4_touched 159 = .ok (.invokestatic 123, 3) := by decide +kernel
theorem dX4_touched_162 : decode cX4_touched 162 = .ok (.if_icmp .eq 7, 3) := by decide +kernel
theorem dX4_touched_165 : decode cX4_touched 165 = .ok (.iconst 1, 1) := by decide +kernel
theorem dX4_touched_166 : decode cX4_touched 166 = .ok (.goto 4, 3) := by decide +kernel
theorem dX4_touched_169 : decode cX4_touched 169 = .ok (.iconst 0, 1) := by decide +kernel
theorem dX4_touched_170 : decode cX4_touched 170 = .ok (.iadd, 1) := by decide +kernel
theorem dX4_touched_171 : decode cX4_touched 171 = .ok (.istore 5, 2) := by decide +kernel
theorem dX4_touched_173 : decode cX4_touched 173 = .ok (.iinc 6 1, 3) := by decide +kernel
theorem dX4_touched_176 : decode cX4_touched 176 = .ok (.goto (-133), 3) := by decide +kernel
theorem dX4_touched_179 : decode cX4_touched 179 = .ok (.iload 5, 2) := by decide +kernel
theorem dX4_touched_181 : decode cX4_touched 181 = .ok (.ireturn, 1) := by decide +kernel
theorem dJ9_max_7cf53_0 : decode cJ9_max_7cf53 0 = .ok (.iload_n 0, 1) := by decide +kernel
theorem dJ9_max_7cf53_1 : decode cJ9_max_7cf53 1 = .ok (.iload_n 1, 1) := by decide +kernel
theorem dJ9_max_7cf53_2 : decode cJ9_max_7cf53 2 = .ok (.if_icmp .lt 7, 3) := by decide +kernel
theorem dJ9_max_7cf53_5 : decode cJ9_max_7cf53 5 = .ok (.iload_n 0, 1) := by decide +kernel
theorem dJ9_max_7cf53_6 : decode cJ9_max_7cf53 6 = .ok (.goto 4, 3) := by decide +kernel
theorem dJ9_max_7cf53_9 : decode cJ9_max_7cf53 9 = .ok (.iload_n 1, 1) := by decide +kernel
theorem dJ9_max_7cf53_10 : decode cJ9_max_7cf53 10 = .ok (.ireturn, 1) := by decide +kernel
theorem dJ9_min_7cf53_0 : decode cJ9_min_7cf53 0 = .ok (.iload_n 0, 1) := by decide +kernel
theorem dJ9_min_7cf53_1 : decode cJ9_min_7cf53 1 = .ok (.iload_n 1, 1) := by decide +kernel
theorem dJ9_min_7cf53_2 : decode cJ9_min_7cf53 2 = .ok (.if_icmp .gt 7, 3) := by decide +kernel
theorem dJ9_min_7cf53_5 : decode cJ9_min_7cf53 5 = .ok (.iload_n 0, 1) := by decide +kernel
theorem dJ9_min_7cf53_6 : decode cJ9_min_7cf53 6 = .ok (.goto 4, 3) := by decide +kernel
theorem dJ9_min_7cf53_9 : decode cJ9_min_7cf53 9 = .ok (.iload_n 1, 1) := by decide +kernel
theorem dJ9_min_7cf53_10 : decode cJ9_min_7cf53 10 = .ok (.ireturn, 1) := by decide +kernel
theorem dJ7_fill_53178_0 : decode cJ7_fill_53178 0 = .ok (.iconst 0, 1) := by decide +kernel
theorem dJ7_fill_53178_1 : decode cJ7_fill_53178 1 = .ok (.istore_n 2, 1) := by decide +kernel
theorem dJ7_fill_53178_2 : decode cJ7_fill_53178 2 = .ok (.aload_n 0, 1) := by decide +kernel
theorem dJ7_fill_53178_3 : decode cJ7_fill_53178 3 = .ok (.arraylength, 1) := by decide +kernel
theorem dJ7_fill_53178_4 : decode cJ7_fill_53178 4 = .ok (.istore_n 3, 1) := by decide +kernel
theorem dJ7_fill_53178_5 : decode cJ7_fill_53178 5 = .ok (.iload_n 2, 1) := by decide +kernel
theorem dJ7_fill_53178_6 : decode cJ7_fill_53178 6 = .ok (.iload_n 3, 1) := by decide +kernel
theorem dJ7_fill_53178_7 : decode cJ7_fill_53178 7 = .ok (.if_icmp .ge 13, 3) := by decide +kernel
theorem dJ7_fill_53178_10 : decode cJ7_fill_53178 10 = .ok (.aload_n 0, 1) := by decide +kernel
theorem dJ7_fill_53178_11 : decode cJ7_fill_53178 11 = .ok (.iload_n 2, 1) := by decide +kernel
theorem dJ7_fill_53178_12 : decode cJ7_fill_53178 12 = .ok (.iload_n 1, 1) := by decide +kernel
theorem dJ7_fill_53178_13 : decode cJ7_fill_53178 13 = .ok (.iastore, 1) := by decide +kernel
theorem dJ7_fill_53178_14 : decode cJ7_fill_53178 14 = .ok (.iinc 2 1, 3) := by decide +kernel
theorem dJ7_fill_53178_17 : decode cJ7_fill_53178 17 = .ok (.goto (-12), 3) := by decide +kernel
theorem dJ7_fill_53178_20 : decode cJ7_fill_53178 20 = .ok (.return_, 1) := by decide +kernel
set_option maxRecDepth 20000 in
theorem ggL_addLamp_X3_addLamp : GoodIn wsL_addLamp wsX3_addLamp := goodIn_ca (goodIn_ca (goodIn_r _ [7, 8, 9, 10, 11, 12, 6, 13, 14, 15, 16, 17, 18, 19, 20, 21, 22, 23, 24, 25, 26, 27, 28, 29, 30, 31, 32, 33, 34, 35, 36, 37, 38, 39, 40, 41, 42, 43, 44, 45, 46] (by decide +kernel) (by decide +kernel)) (goodIn_sub (fun _ h => List.mem_cons_of_mem _ (List.mem_append_left _ (List.mem_append_right _ h))) (by decide +kernel))) (goodIn_sub (fun _ h => List.mem_cons_of_mem _ (List.mem_append_right _ h)) (by decide +kernel))
set_option maxRecDepth 20000 in
theorem gL_addLamp_X3_addLamp : GoodIn wsL_addLamp (wsV RL 7 RX3 yX3_addLamp wsX3_addLamp) := goodIn_app (goodIn_of _ (by decide +kernel)) ggL_addLamp_X3_addLamp
theorem dL_addLamp_0 : decode cL_addLamp 0 = .ok (.aload_n 3, 1) := by decide +kernel
theorem dL_addLamp_1 : decode cL_addLamp 1 = .ok (.iconst 0, 1) := by decide +kernel
theorem dL_addLamp_2 : decode cL_addLamp 2 = .ok (.aload_n 0, 1) := by decide +kernel
theorem dL_addLamp_3 : decode cL_addLamp 3 = .ok (.iload_n 1, 1) := by decide +kernel
theorem dL_addLamp_4 : decode cL_addLamp 4 = .ok (.iload_n 2, 1) := by decide +kernel
theorem dL_addLamp_5 : decode cL_addLamp 5 = .ok (.invokevirtual 7, 3) := by decide +kernel
theorem dL_addLamp_8 : decode cL_addLamp 8 = .ok (.i2l, 1) := by decide +kernel
theorem dL_addLamp_9 : decode cL_addLamp 9 = .ok (.lastore, 1) := by decide +kernel
theorem dL_addLamp_10 : decode cL_addLamp 10 = .ok (.goto 11, 3) := by decide +kernel
theorem dL_addLamp_13 : decode cL_addLamp 13 = .ok (.astore 4, 2) := by decide +kernel
theorem dL_addLamp_15 : decode cL_addLamp 15 = .ok (.iconst 1, 1) := by decide +kernel
theorem dL_addLamp_16 : decode cL_addLamp 16 = .ok (.ireturn, 1) := by decide +kernel
theorem dL_addLamp_17 : decode cL_addLamp 17 = .ok (.astore 4, 2) := by decide +kernel
theorem dL_addLamp_19 : decode cL_addLamp 19 = .ok (.iconst 2, 1) := by decide +kernel
theorem dL_addLamp_20 : decode cL_addLamp 20 = .ok (.ireturn, 1) := by decide +kernel
theorem dL_addLamp_21 : decode cL_addLamp 21 = .ok (.iconst 0, 1) := by decide +kernel
theorem dL_addLamp_22 : decode cL_addLamp 22 = .ok (.ireturn, 1) := by decide +kernel
set_option maxRecDepth 20000 in
theorem ggL_swap_X3_swap : GoodIn wsL_swap wsX3_swap := goodIn_ca (goodIn_ca (goodIn_r _ [7, 8, 9, 10, 11, 12, 6, 13, 14, 15, 16, 17, 18, 19, 20, 21, 22, 23, 24, 25, 26, 27, 28, 29, 30, 31, 32, 33, 34, 35, 36, 37, 38, 39, 40, 41, 42, 43, 44, 45, 46, 47, 48, 49, 50, 51, 52, 53, 54, 55, 56, 57, 58, 59, 60, 61, 62, 63, 64, 65, 66, 67, 68, 69, 70, 71, 72, 73, 74] (by decide +kernel) (by decide +kernel)) (goodIn_sub (fun _ h => List.mem_cons_of_mem _ (List.mem_append_left _ (List.mem_append_right _ h))) (by decide +kernel))) (goodIn_sub (fun _ h => List.mem_cons_of_mem _ (List.mem_append_right _ h)) (by decide +kernel))
set_option maxRecDepth 20000 in
theorem gL_swap_X3_swap : GoodIn wsL_swap (wsV RL 17 RX3 yX3_swap wsX3_swap) := goodIn_app (goodIn_of _ (by decide +kernel)) ggL_swap_X3_swap
theorem dL_swap_0 : decode cL_swap 0 = .ok (.aload_n 0, 1) := by decide +kernel
theorem dL_swap_1 : decode cL_swap 1 = .ok (.iload_n 1, 1) := by decide +kernel
theorem dL_swap_2 : decode cL_swap 2 = .ok (.iload_n 2, 1) := by decide +kernel
theorem dL_swap_3 : decode cL_swap 3 = .ok (.iload_n 3, 1) := by decide +kernel
theorem dL_swap_4 : decode cL_swap 4 = .ok (.invokevirtual 17, 3) := by decide +kernel
theorem dL_swap_7 : decode cL_swap 7 = .ok (.goto 11, 3) := by decide +kernel
theorem dL_swap_10 : decode cL_swap 10 = .ok (.astore 4, 2) := by decide +kernel
theorem dL_swap_12 : decode cL_swap 12 = .ok (.iconst 1, 1) := by decide +kernel
theorem dL_swap_13 : decode cL_swap 13 = .ok (.ireturn, 1) := by decide +kernel
theorem dL_swap_14 : decode cL_swap 14 = .ok (.astore 4, 2) := by decide +kernel
theorem dL_swap_16 : decode cL_swap 16 = .ok (.iconst 2, 1) := by decide +kernel
theorem dL_swap_17 : decode cL_swap 17 = .ok (.ireturn, 1) := by decide +kernel
theorem dL_swap_18 : decode cL_swap 18 = .ok (.iconst 0, 1) := by decide +kernel
theorem dL_swap_19 : decode cL_swap 19 = .ok (.ireturn, 1) := by decide +kernel
set_option maxRecDepth 20000 in
theorem ggL_hang_X3_hang : GoodIn wsL_hang wsX3_hang := goodIn_ca (goodIn_ca (goodIn_r _ [7, 8, 9, 10, 11, 12, 6, 13, 14, 15, 16, 17, 18, 19, 20, 21, 22, 23, 24, 25, 26, 27, 28, 29, 30, 31, 32, 33, 34, 35, 36, 37, 38, 39, 40, 41, 42, 43, 44, 45, 46, 47, 48, 49, 50, 51, 52, 53, 54, 55, 56, 57, 58, 59, 60, 61, 62, 63, 64, 65, 66, 67, 68, 69, 70, 71, 72, 73, 74, 75, 76, 77, 78, 79, 80, 81] (by decide +kernel) (by decide +kernel)) (goodIn_sub (fun _ h => List.mem_cons_of_mem _ (List.mem_append_left _ (List.mem_append_right _ h))) (by decide +kernel))) (goodIn_sub (fun _ h => List.mem_cons_of_mem _ (List.mem_append_right _ h)) (by decide +kernel))
set_option maxRecDepth 20000 in
theorem gL_hang_X3_hang : GoodIn wsL_hang (wsV RL 23 RX3 yX3_hang wsX3_hang) := goodIn_app (goodIn_of _ (by decide +kernel)) ggL_hang_X3_hang
theorem dL_hang_0 : decode cL_hang 0 = .ok (.aload 4, 2) := by decide +kernel
theorem dL_hang_2 : decode cL_hang 2 = .ok (.iconst 0, 1) := by decide +kernel
theorem dL_hang_3 : decode cL_hang 3 = .ok (.aload_n 0, 1) := by decide +kernel
theorem dL_hang_4 : decode cL_hang 4 = .ok (.iload_n 1, 1) := by decide +kernel
theorem dL_hang_5 : decode cL_hang 5 = .ok (.iload_n 2, 1) := by decide +kernel
theorem dL_hang_6 : decode cL_hang 6 = .ok (.iload_n 3, 1) := by decide +kernel
theorem dL_hang_7 : decode cL_hang 7 = .ok (.invokevirtual 23, 3) := by decide +kernel
theorem dL_hang_10 : decode cL_hang 10 = .ok (.i2l, 1) := by decide +kernel
theorem dL_hang_11 : decode cL_hang 11 = .ok (.lastore, 1) := by decide +kernel
theorem dL_hang_12 : decode cL_hang 12 = .ok (.goto 11, 3) := by decide +kernel
theorem dL_hang_15 : decode cL_hang 15 = .ok (.astore 5, 2) := by decide +kernel
theorem dL_hang_17 : decode cL_hang 17 = .ok (.iconst 1, 1) := by decide +kernel
theorem dL_hang_18 : decode cL_hang 18 = .ok (.ireturn, 1) := by decide +kernel
theorem dL_hang_19 : decode cL_hang 19 = .ok (.astore 5, 2) := by decide +kernel
theorem dL_hang_21 : decode cL_hang 21 = .ok (.iconst 2, 1) := by decide +kernel
theorem dL_hang_22 : decode cL_hang 22 = .ok (.ireturn, 1) := by decide +kernel
theorem dL_hang_23 : decode cL_hang 23 = .ok (.iconst 0, 1) := by decide +kernel
theorem dL_hang_24 : decode cL_hang 24 = .ok (.ireturn, 1) := by decide +kernel
set_option maxRecDepth 20000 in
theorem ggL_setNight_X3_setNight : GoodIn wsL_setNight wsX3_setNight := goodIn_ca (goodIn_r _ [6, 7, 8, 9, 5, 10, 11, 12, 13, 14, 15, 16, 17, 18, 19, 20, 21, 22] (by decide +kernel) (by decide +kernel)) (goodIn_sub (fun _ h => List.mem_cons_of_mem _ (List.mem_append_right _ h)) (by decide +kernel))
set_option maxRecDepth 20000 in
theorem gL_setNight_X3_setNight : GoodIn wsL_setNight (wsV RL 27 RX3 yX3_setNight wsX3_setNight) := goodIn_app (goodIn_of _ (by decide +kernel)) ggL_setNight_X3_setNight
theorem dL_setNight_0 : decode cL_setNight 0 = .ok (.aload_n 2, 1) := by decide +kernel
theorem dL_setNight_1 : decode cL_setNight 1 = .ok (.iconst 0, 1) := by decide +kernel
theorem dL_setNight_2 : decode cL_setNight 2 = .ok (.aload_n 0, 1) := by decide +kernel
theorem dL_setNight_3 : decode cL_setNight 3 = .ok (.iload_n 1, 1) := by decide +kernel
theorem dL_setNight_4 : decode cL_setNight 4 = .ok (.invokevirtual 27, 3) := by decide +kernel
theorem dL_setNight_7 : decode cL_setNight 7 = .ok (.i2l, 1) := by decide +kernel
theorem dL_setNight_8 : decode cL_setNight 8 = .ok (.lastore, 1) := by decide +kernel
theorem dL_setNight_9 : decode cL_setNight 9 = .ok (.goto 6, 3) := by decide +kernel
theorem dL_setNight_12 : decode cL_setNight 12 = .ok (.astore_n 3, 1) := by decide +kernel
theorem dL_setNight_13 : decode cL_setNight 13 = .ok (.iconst 1, 1) := by decide +kernel
theorem dL_setNight_14 : decode cL_setNight 14 = .ok (.ireturn, 1) := by decide +kernel
theorem dL_setNight_15 : decode cL_setNight 15 = .ok (.iconst 0, 1) := by decide +kernel
theorem dL_setNight_16 : decode cL_setNight 16 = .ok (.ireturn, 1) := by decide +kernel
set_option maxRecDepth 20000 in
theorem ggL_setLatest_X3_setLatest : GoodIn wsL_setLatest wsX3_setLatest := goodIn_ca (goodIn_r _ [6, 7, 8, 9, 5, 10, 11, 12, 13, 14, 15, 16, 17, 18, 19, 20, 21, 22] (by decide +kernel) (by decide +kernel)) (goodIn_sub (fun _ h => List.mem_cons_of_mem _ (List.mem_append_right _ h)) (by decide +kernel))
set_option maxRecDepth 20000 in
theorem gL_setLatest_X3_setLatest : GoodIn wsL_setLatest (wsV RL 31 RX3 yX3_setLatest wsX3_setLatest) := goodIn_app (goodIn_of _ (by decide +kernel)) ggL_setLatest_X3_setLatest
theorem dL_setLatest_0 : decode cL_setLatest 0 = .ok (.aload_n 3, 1) := by decide +kernel
theorem dL_setLatest_1 : decode cL_setLatest 1 = .ok (.iconst 0, 1) := by decide +kernel
theorem dL_setLatest_2 : decode cL_setLatest 2 = .ok (.aload_n 0, 1) := by decide +kernel
theorem dL_setLatest_3 : decode cL_setLatest 3 = .ok (.iload_n 1, 1) := by decide +kernel
theorem dL_setLatest_4 : decode cL_setLatest 4 = .ok (.iload_n 2, 1) := by decide +kernel
theorem dL_setLatest_5 : decode cL_setLatest 5 = .ok (.invokevirtual 31, 3) := by decide +kernel
theorem dL_setLatest_8 : decode cL_setLatest 8 = .ok (.ifCond .eq 7, 3) := by decide +kernel
theorem dL_setLatest_11 : decode cL_setLatest 11 = .ok (.lconst 1, 1) := by decide +kernel
theorem dL_setLatest_12 : decode cL_setLatest 12 = .ok (.goto 4, 3) := by decide +kernel
theorem dL_setLatest_15 : decode cL_setLatest 15 = .ok (.lconst 0, 1) := by decide +kernel
theorem dL_setLatest_16 : decode cL_setLatest 16 = .ok (.lastore, 1) := by decide +kernel
theorem dL_setLatest_17 : decode cL_setLatest 17 = .ok (.goto 7, 3) := by decide +kernel
theorem dL_setLatest_20 : decode cL_setLatest 20 = .ok (.astore 4, 2) := by decide +kernel
theorem dL_setLatest_22 : decode cL_setLatest 22 = .ok (.iconst 1, 1) := by decide +kernel
theorem dL_setLatest_23 : decode cL_setLatest 23 = .ok (.ireturn, 1) := by decide +kernel
theorem dL_setLatest_24 : decode cL_setLatest 24 = .ok (.iconst 0, 1) := by decide +kernel
theorem dL_setLatest_25 : decode cL_setLatest 25 = .ok (.ireturn, 1) := by decide +kernel
set_option maxRecDepth 20000 in
theorem ggL_addCue_X3_addCue : GoodIn wsL_addCue wsX3_addCue := goodIn_ca (goodIn_ca (goodIn_r _ [7, 8, 9, 10, 11, 6, 12, 13, 14, 15, 16, 17, 18, 19, 20, 21, 22, 23, 24, 25, 26, 27, 28, 29, 30, 31, 32, 33, 34, 35, 36, 37, 38, 39, 40, 41, 42, 43, 44, 45, 46, 47, 48, 49, 50, 51, 52] (by decide +kernel) (by decide +kernel)) (goodIn_sub (fun _ h => List.mem_cons_of_mem _ (List.mem_append_left _ (List.mem_append_right _ h))) (by decide +kernel))) (goodIn_sub (fun _ h => List.mem_cons_of_mem _ (List.mem_append_right _ h)) (by decide +kernel))
set_option maxRecDepth 20000 in
theorem gL_addCue_X3_addCue : GoodIn wsL_addCue (wsV RL 35 RX3 yX3_addCue wsX3_addCue) := goodIn_app (goodIn_of _ (by decide +kernel)) ggL_addCue_X3_addCue
theorem dL_addCue_0 : decode cL_addCue 0 = .ok (.aload 5, 2) := by decide +kernel
theorem dL_addCue_2 : decode cL_addCue 2 = .ok (.iconst 0, 1) := by decide +kernel
theorem dL_addCue_3 : decode cL_addCue 3 = .ok (.aload_n 0, 1) := by decide +kernel
theorem dL_addCue_4 : decode cL_addCue 4 = .ok (.iload_n 1, 1) := by decide +kernel
theorem dL_addCue_5 : decode cL_addCue 5 = .ok (.iload_n 2, 1) := by decide +kernel
theorem dL_addCue_6 : decode cL_addCue 6 = .ok (.iload_n 3, 1) := by decide +kernel
theorem dL_addCue_7 : decode cL_addCue 7 = .ok (.iload 4, 2) := by decide +kernel
theorem dL_addCue_9 : decode cL_addCue 9 = .ok (.invokevirtual 35, 3) := by decide +kernel
theorem dL_addCue_12 : decode cL_addCue 12 = .ok (.i2l, 1) := by decide +kernel
theorem dL_addCue_13 : decode cL_addCue 13 = .ok (.lastore, 1) := by decide +kernel
theorem dL_addCue_14 : decode cL_addCue 14 = .ok (.goto 11, 3) := by decide +kernel
theorem dL_addCue_17 : decode cL_addCue 17 = .ok (.astore 6, 2) := by decide +kernel
theorem dL_addCue_19 : decode cL_addCue 19 = .ok (.iconst 1, 1) := by decide +kernel
theorem dL_addCue_20 : decode cL_addCue 20 = .ok (.ireturn, 1) := by decide +kernel
theorem dL_addCue_21 : decode cL_addCue 21 = .ok (.astore 6, 2) := by decide +kernel
theorem dL_addCue_23 : decode cL_addCue 23 = .ok (.iconst 2, 1) := by decide +kernel
theorem dL_addCue_24 : decode cL_addCue 24 = .ok (.ireturn, 1) := by decide +kernel
theorem dL_addCue_25 : decode cL_addCue 25 = .ok (.iconst 0, 1) := by decide +kernel
theorem dL_addCue_26 : decode cL_addCue 26 = .ok (.ireturn, 1) := by decide +kernel
set_option maxRecDepth 20000 in
theorem ggL_setLevel_X3_setLevel : GoodIn wsL_setLevel wsX3_setLevel := goodIn_ca (goodIn_ca (goodIn_r _ [7, 8, 9, 10, 6, 11, 12, 13, 14, 15, 16, 17, 18, 19, 20, 21, 22, 23, 24, 25, 26, 27, 28, 29, 30, 31, 32, 33, 34, 35, 36, 37, 38, 39, 40, 41, 42, 43, 44, 45, 46, 47, 48, 49, 50, 51, 52, 53, 54, 55, 56, 57, 58, 59, 60, 61, 62, 63, 64, 65, 66, 67, 68, 69, 70, 71, 72, 73, 74, 75, 76, 77, 78, 79, 80, 81, 82, 83, 84, 85, 86, 87, 88] (by decide +kernel) (by decide +kernel)) (goodIn_sub (fun _ h => List.mem_cons_of_mem _ (List.mem_append_left _ (List.mem_append_right _ h))) (by decide +kernel))) (goodIn_sub (fun _ h => List.mem_cons_of_mem _ (List.mem_append_right _ h)) (by decide +kernel))
set_option maxRecDepth 20000 in
theorem gL_setLevel_X3_setLevel : GoodIn wsL_setLevel (wsV RL 39 RX3 yX3_setLevel wsX3_setLevel) := goodIn_app (goodIn_of _ (by decide +kernel)) ggL_setLevel_X3_setLevel
theorem dL_setLevel_0 : decode cL_setLevel 0 = .ok (.aload 5, 2) := by decide +kernel
theorem dL_setLevel_2 : decode cL_setLevel 2 = .ok (.iconst 0, 1) := by decide +kernel
theorem dL_setLevel_3 : decode cL_setLevel 3 = .ok (.aload_n 0, 1) := by decide +kernel
theorem dL_setLevel_4 : decode cL_setLevel 4 = .ok (.iload_n 1, 1) := by decide +kernel
theorem dL_setLevel_5 : decode cL_setLevel 5 = .ok (.iload_n 2, 1) := by decide +kernel
theorem dL_setLevel_6 : decode cL_setLevel 6 = .ok (.iload_n 3, 1) := by decide +kernel
theorem dL_setLevel_7 : decode cL_setLevel 7 = .ok (.iload 4, 2) := by decide +kernel
theorem dL_setLevel_9 : decode cL_setLevel 9 = .ok (.invokevirtual 39, 3) := by decide +kernel
theorem dL_setLevel_12 : decode cL_setLevel 12 = .ok (.i2l, 1) := by decide +kernel
theorem dL_setLevel_13 : decode cL_setLevel 13 = .ok (.lastore, 1) := by decide +kernel
theorem dL_setLevel_14 : decode cL_setLevel 14 = .ok (.goto 11, 3) := by decide +kernel
theorem dL_setLevel_17 : decode cL_setLevel 17 = .ok (.astore 6, 2) := by decide +kernel
theorem dL_setLevel_19 : decode cL_setLevel 19 = .ok (.iconst 1, 1) := by decide +kernel
theorem dL_setLevel_20 : decode cL_setLevel 20 = .ok (.ireturn, 1) := by decide +kernel
theorem dL_setLevel_21 : decode cL_setLevel 21 = .ok (.astore 6, 2) := by decide +kernel
theorem dL_setLevel_23 : decode cL_setLevel 23 = .ok (.iconst 2, 1) := by decide +kernel
theorem dL_setLevel_24 : decode cL_setLevel 24 = .ok (.ireturn, 1) := by decide +kernel
theorem dL_setLevel_25 : decode cL_setLevel 25 = .ok (.iconst 0, 1) := by decide +kernel
theorem dL_setLevel_26 : decode cL_setLevel 26 = .ok (.ireturn, 1) := by decide +kernel
set_option maxRecDepth 20000 in
theorem ggL_undo_X3_undo : GoodIn wsL_undo wsX3_undo := goodIn_ca (goodIn_r _ [6, 7, 8, 9, 10, 11, 12, 13, 14, 15, 16, 17, 18, 5, 19, 20, 21, 22, 23, 24, 25, 26, 27, 28, 29, 30, 31, 32, 33, 34, 35, 36, 37, 38, 39, 40, 41, 42, 43, 44, 45, 46, 47, 48, 49, 50, 51, 52, 53, 54, 55, 56, 57, 58, 59, 60, 61, 62, 63, 64, 65, 66, 67, 68, 69, 70, 71, 72, 73, 74, 75, 76, 77, 78, 79, 80, 81, 82, 83, 84, 85, 86, 87, 88, 89, 90, 91, 92, 93, 94, 95, 96, 97, 98, 99, 100, 101, 102, 103, 104, 105, 106] (by decide +kernel) (by decide +kernel)) (goodIn_sub (fun _ h => List.mem_cons_of_mem _ (List.mem_append_right _ h)) (by decide +kernel))
set_option maxRecDepth 20000 in
theorem gL_undo_X3_undo : GoodIn wsL_undo (wsV RL 43 RX3 yX3_undo wsX3_undo) := goodIn_app (goodIn_of _ (by decide +kernel)) ggL_undo_X3_undo
theorem dL_undo_0 : decode cL_undo 0 = .ok (.aload_n 1, 1) := by decide +kernel
theorem dL_undo_1 : decode cL_undo 1 = .ok (.iconst 0, 1) := by decide +kernel
theorem dL_undo_2 : decode cL_undo 2 = .ok (.aload_n 0, 1) := by decide +kernel
theorem dL_undo_3 : decode cL_undo 3 = .ok (.invokevirtual 43, 3) := by decide +kernel
theorem dL_undo_6 : decode cL_undo 6 = .ok (.i2l, 1) := by decide +kernel
theorem dL_undo_7 : decode cL_undo 7 = .ok (.lastore, 1) := by decide +kernel
theorem dL_undo_8 : decode cL_undo 8 = .ok (.goto 6, 3) := by decide +kernel
theorem dL_undo_11 : decode cL_undo 11 = .ok (.astore_n 2, 1) := by decide +kernel
theorem dL_undo_12 : decode cL_undo 12 = .ok (.iconst 1, 1) := by decide +kernel
theorem dL_undo_13 : decode cL_undo 13 = .ok (.ireturn, 1) := by decide +kernel
theorem dL_undo_14 : decode cL_undo 14 = .ok (.iconst 0, 1) := by decide +kernel
theorem dL_undo_15 : decode cL_undo 15 = .ok (.ireturn, 1) := by decide +kernel
set_option maxRecDepth 20000 in
theorem ggL_go_X3_go : GoodIn wsL_go wsX3_go := goodIn_ca (goodIn_ca (goodIn_r _ [7, 8, 9, 6, 10, 11, 12, 13, 14, 15, 16, 17, 18, 19, 20, 21, 22, 23, 24, 25, 26, 27, 28, 29, 30, 31, 32, 33, 34, 35, 36, 37, 38, 39, 40, 41, 42, 43, 44, 45, 46, 47, 48, 49, 50, 51, 52, 53, 54, 55, 56, 57, 58, 59, 60, 61, 62, 63, 64, 65, 66, 67, 68, 69, 70, 71, 72, 73, 74, 75, 76, 77, 78, 79, 80, 81, 82, 83, 84, 85, 86, 87, 88, 89, 90, 91] (by decide +kernel) (by decide +kernel)) (goodIn_sub (fun _ h => List.mem_cons_of_mem _ (List.mem_append_left _ (List.mem_append_right _ h))) (by decide +kernel))) (goodIn_sub (fun _ h => List.mem_cons_of_mem _ (List.mem_append_right _ h)) (by decide +kernel))
set_option maxRecDepth 20000 in
theorem gL_go_X3_go : GoodIn wsL_go (wsV RL 47 RX3 yX3_go wsX3_go) := goodIn_app (goodIn_of _ (by decide +kernel)) ggL_go_X3_go
theorem dL_go_0 : decode cL_go 0 = .ok (.aload_n 3, 1) := by decide +kernel
theorem dL_go_1 : decode cL_go 1 = .ok (.iconst 0, 1) := by decide +kernel
theorem dL_go_2 : decode cL_go 2 = .ok (.aload_n 0, 1) := by decide +kernel
theorem dL_go_3 : decode cL_go 3 = .ok (.iload_n 1, 1) := by decide +kernel
theorem dL_go_4 : decode cL_go 4 = .ok (.iload_n 2, 1) := by decide +kernel
theorem dL_go_5 : decode cL_go 5 = .ok (.invokevirtual 47, 3) := by decide +kernel
theorem dL_go_8 : decode cL_go 8 = .ok (.i2l, 1) := by decide +kernel
theorem dL_go_9 : decode cL_go 9 = .ok (.lastore, 1) := by decide +kernel
theorem dL_go_10 : decode cL_go 10 = .ok (.goto 11, 3) := by decide +kernel
theorem dL_go_13 : decode cL_go 13 = .ok (.astore 4, 2) := by decide +kernel
theorem dL_go_15 : decode cL_go 15 = .ok (.iconst 1, 1) := by decide +kernel
theorem dL_go_16 : decode cL_go 16 = .ok (.ireturn, 1) := by decide +kernel
theorem dL_go_17 : decode cL_go 17 = .ok (.astore 4, 2) := by decide +kernel
theorem dL_go_19 : decode cL_go 19 = .ok (.iconst 2, 1) := by decide +kernel
theorem dL_go_20 : decode cL_go 20 = .ok (.ireturn, 1) := by decide +kernel
theorem dL_go_21 : decode cL_go 21 = .ok (.iconst 0, 1) := by decide +kernel
theorem dL_go_22 : decode cL_go 22 = .ok (.ireturn, 1) := by decide +kernel
set_option maxRecDepth 20000 in
theorem ggL_pass_X3_pass : GoodIn wsL_pass wsX3_pass := goodIn_ca (goodIn_r _ [6, 7, 8, 9, 10, 11, 5, 12, 13, 14, 15, 16, 17, 18, 19, 20, 21, 22, 23, 24, 25, 26, 27, 28, 29, 30, 31, 32, 33, 34, 35, 36, 37, 38, 39, 40, 41, 42, 43, 44, 45, 46, 47, 48, 49, 50, 51, 52, 53, 54, 55, 56, 57, 58, 59, 60, 61, 62, 63, 64, 65, 66, 67, 68, 69, 70, 71, 72, 73, 74, 75, 76, 77, 78, 79, 80, 81, 82, 83, 84, 85] (by decide +kernel) (by decide +kernel)) (goodIn_sub (fun _ h => List.mem_cons_of_mem _ (List.mem_append_right _ h)) (by decide +kernel))
set_option maxRecDepth 20000 in
theorem gL_pass_X3_pass : GoodIn wsL_pass (wsV RL 50 RX3 yX3_pass wsX3_pass) := goodIn_app (goodIn_of _ (by decide +kernel)) ggL_pass_X3_pass
theorem dL_pass_0 : decode cL_pass 0 = .ok (.aload_n 2, 1) := by decide +kernel
theorem dL_pass_1 : decode cL_pass 1 = .ok (.iconst 0, 1) := by decide +kernel
theorem dL_pass_2 : decode cL_pass 2 = .ok (.aload_n 0, 1) := by decide +kernel
theorem dL_pass_3 : decode cL_pass 3 = .ok (.iload_n 1, 1) := by decide +kernel
theorem dL_pass_4 : decode cL_pass 4 = .ok (.invokevirtual 50, 3) := by decide +kernel
theorem dL_pass_7 : decode cL_pass 7 = .ok (.i2l, 1) := by decide +kernel
theorem dL_pass_8 : decode cL_pass 8 = .ok (.lastore, 1) := by decide +kernel
theorem dL_pass_9 : decode cL_pass 9 = .ok (.goto 6, 3) := by decide +kernel
theorem dL_pass_12 : decode cL_pass 12 = .ok (.astore_n 3, 1) := by decide +kernel
theorem dL_pass_13 : decode cL_pass 13 = .ok (.iconst 1, 1) := by decide +kernel
theorem dL_pass_14 : decode cL_pass 14 = .ok (.ireturn, 1) := by decide +kernel
theorem dL_pass_15 : decode cL_pass 15 = .ok (.iconst 0, 1) := by decide +kernel
theorem dL_pass_16 : decode cL_pass 16 = .ok (.ireturn, 1) := by decide +kernel
set_option maxRecDepth 20000 in
theorem ggL_running_X3_running : GoodIn wsL_running wsX3_running := goodIn_ca (goodIn_r _ [6, 7, 8, 5, 9, 10, 11, 12, 13, 14, 15, 16, 17, 18, 19, 20, 21, 22, 23, 24, 25, 26, 27, 28, 29, 30, 31, 32, 33, 34, 35, 36, 37, 38, 39] (by decide +kernel) (by decide +kernel)) (goodIn_sub (fun _ h => List.mem_cons_of_mem _ (List.mem_append_right _ h)) (by decide +kernel))
set_option maxRecDepth 20000 in
theorem gL_running_X3_running : GoodIn wsL_running (wsV RL 53 RX3 yX3_running wsX3_running) := goodIn_app (goodIn_of _ (by decide +kernel)) ggL_running_X3_running
theorem dL_running_0 : decode cL_running 0 = .ok (.aload_n 2, 1) := by decide +kernel
theorem dL_running_1 : decode cL_running 1 = .ok (.iconst 0, 1) := by decide +kernel
theorem dL_running_2 : decode cL_running 2 = .ok (.aload_n 0, 1) := by decide +kernel
theorem dL_running_3 : decode cL_running 3 = .ok (.iload_n 1, 1) := by decide +kernel
theorem dL_running_4 : decode cL_running 4 = .ok (.invokevirtual 53, 3) := by decide +kernel
theorem dL_running_7 : decode cL_running 7 = .ok (.i2l, 1) := by decide +kernel
theorem dL_running_8 : decode cL_running 8 = .ok (.lastore, 1) := by decide +kernel
theorem dL_running_9 : decode cL_running 9 = .ok (.goto 6, 3) := by decide +kernel
theorem dL_running_12 : decode cL_running 12 = .ok (.astore_n 3, 1) := by decide +kernel
theorem dL_running_13 : decode cL_running 13 = .ok (.iconst 1, 1) := by decide +kernel
theorem dL_running_14 : decode cL_running 14 = .ok (.ireturn, 1) := by decide +kernel
theorem dL_running_15 : decode cL_running 15 = .ok (.iconst 0, 1) := by decide +kernel
theorem dL_running_16 : decode cL_running 16 = .ok (.ireturn, 1) := by decide +kernel
set_option maxRecDepth 20000 in
theorem ggL_level_X3_level : GoodIn wsL_level wsX3_level := goodIn_ca (goodIn_r _ [6, 7, 8, 5, 9, 10, 11, 12, 13, 14, 15, 16, 17, 18, 19, 20, 21, 22, 23, 24, 25, 26, 27, 28, 29, 30, 31, 32, 33, 34, 35, 36, 37, 38, 39, 40, 41, 42, 43, 44, 45, 46, 47, 48, 49, 50, 51, 52, 53, 54, 55] (by decide +kernel) (by decide +kernel)) (goodIn_sub (fun _ h => List.mem_cons_of_mem _ (List.mem_append_right _ h)) (by decide +kernel))
set_option maxRecDepth 20000 in
theorem gL_level_X3_level : GoodIn wsL_level (wsV RL 56 RX3 yX3_level wsX3_level) := goodIn_app (goodIn_of _ (by decide +kernel)) ggL_level_X3_level
theorem dL_level_0 : decode cL_level 0 = .ok (.aload_n 3, 1) := by decide +kernel
theorem dL_level_1 : decode cL_level 1 = .ok (.iconst 0, 1) := by decide +kernel
theorem dL_level_2 : decode cL_level 2 = .ok (.aload_n 0, 1) := by decide +kernel
theorem dL_level_3 : decode cL_level 3 = .ok (.iload_n 1, 1) := by decide +kernel
theorem dL_level_4 : decode cL_level 4 = .ok (.iload_n 2, 1) := by decide +kernel
theorem dL_level_5 : decode cL_level 5 = .ok (.invokevirtual 56, 3) := by decide +kernel
theorem dL_level_8 : decode cL_level 8 = .ok (.i2l, 1) := by decide +kernel
theorem dL_level_9 : decode cL_level 9 = .ok (.lastore, 1) := by decide +kernel
theorem dL_level_10 : decode cL_level 10 = .ok (.goto 7, 3) := by decide +kernel
theorem dL_level_13 : decode cL_level 13 = .ok (.astore 4, 2) := by decide +kernel
theorem dL_level_15 : decode cL_level 15 = .ok (.iconst 1, 1) := by decide +kernel
theorem dL_level_16 : decode cL_level 16 = .ok (.ireturn, 1) := by decide +kernel
theorem dL_level_17 : decode cL_level 17 = .ok (.iconst 0, 1) := by decide +kernel
theorem dL_level_18 : decode cL_level 18 = .ok (.ireturn, 1) := by decide +kernel
set_option maxRecDepth 20000 in
theorem ggL_merged_X3_merged : GoodIn wsL_merged wsX3_merged := goodIn_ca (goodIn_r _ [6, 7, 8, 5, 9, 10, 11, 12, 13, 14, 15, 16, 17, 18, 19, 20, 21, 22, 23, 24, 25, 26, 27, 28, 29, 30, 31, 32, 33, 34, 35, 36, 37, 38, 39, 40, 41, 42, 43, 44, 45, 46, 47, 48, 49, 50, 51, 52, 53, 54, 55, 56, 57, 58] (by decide +kernel) (by decide +kernel)) (goodIn_sub (fun _ h => List.mem_cons_of_mem _ (List.mem_append_right _ h)) (by decide +kernel))
set_option maxRecDepth 20000 in
theorem gL_merged_X3_merged : GoodIn wsL_merged (wsV RL 59 RX3 yX3_merged wsX3_merged) := goodIn_app (goodIn_of _ (by decide +kernel)) ggL_merged_X3_merged
theorem dL_merged_0 : decode cL_merged 0 = .ok (.aload_n 2, 1) := by decide +kernel
theorem dL_merged_1 : decode cL_merged 1 = .ok (.iconst 0, 1) := by decide +kernel
theorem dL_merged_2 : decode cL_merged 2 = .ok (.aload_n 0, 1) := by decide +kernel
theorem dL_merged_3 : decode cL_merged 3 = .ok (.iload_n 1, 1) := by decide +kernel
theorem dL_merged_4 : decode cL_merged 4 = .ok (.invokevirtual 59, 3) := by decide +kernel
theorem dL_merged_7 : decode cL_merged 7 = .ok (.i2l, 1) := by decide +kernel
theorem dL_merged_8 : decode cL_merged 8 = .ok (.lastore, 1) := by decide +kernel
theorem dL_merged_9 : decode cL_merged 9 = .ok (.goto 6, 3) := by decide +kernel
theorem dL_merged_12 : decode cL_merged 12 = .ok (.astore_n 3, 1) := by decide +kernel
theorem dL_merged_13 : decode cL_merged 13 = .ok (.iconst 1, 1) := by decide +kernel
theorem dL_merged_14 : decode cL_merged 14 = .ok (.ireturn, 1) := by decide +kernel
theorem dL_merged_15 : decode cL_merged 15 = .ok (.iconst 0, 1) := by decide +kernel
theorem dL_merged_16 : decode cL_merged 16 = .ok (.ireturn, 1) := by decide +kernel
set_option maxRecDepth 20000 in
theorem ggL_light_X3_light : GoodIn wsL_light wsX3_light := goodIn_ca (goodIn_r _ [6, 7, 8, 9, 10, 5, 11, 12, 13, 14, 15, 16, 17, 18, 19, 20, 21, 22, 23, 24, 25, 26, 27, 28, 29, 30, 31, 32, 33, 34, 35, 36, 37, 38, 39, 40, 41, 42, 43, 44, 45, 46, 47, 48, 49, 50, 51, 52, 53, 54, 55, 56, 57, 58, 59, 60, 61, 62, 63, 64, 65, 66, 67, 68, 69, 70, 71, 72, 73, 74, 75, 76, 77, 78, 79, 80, 81, 82, 83, 84, 85, 86, 87, 88, 89, 90, 91, 92, 93, 94, 95, 96, 97, 98] (by decide +kernel) (by decide +kernel)) (goodIn_sub (fun _ h => List.mem_cons_of_mem _ (List.mem_append_right _ h)) (by decide +kernel))
set_option maxRecDepth 20000 in
theorem gL_light_X3_light : GoodIn wsL_light (wsV RL 62 RX3 yX3_light wsX3_light) := goodIn_app (goodIn_of _ (by decide +kernel)) ggL_light_X3_light
theorem dL_light_0 : decode cL_light 0 = .ok (.aload_n 2, 1) := by decide +kernel
theorem dL_light_1 : decode cL_light 1 = .ok (.iconst 0, 1) := by decide +kernel
theorem dL_light_2 : decode cL_light 2 = .ok (.aload_n 0, 1) := by decide +kernel
theorem dL_light_3 : decode cL_light 3 = .ok (.iload_n 1, 1) := by decide +kernel
theorem dL_light_4 : decode cL_light 4 = .ok (.invokevirtual 62, 3) := by decide +kernel
theorem dL_light_7 : decode cL_light 7 = .ok (.i2l, 1) := by decide +kernel
theorem dL_light_8 : decode cL_light 8 = .ok (.lastore, 1) := by decide +kernel
theorem dL_light_9 : decode cL_light 9 = .ok (.goto 6, 3) := by decide +kernel
theorem dL_light_12 : decode cL_light 12 = .ok (.astore_n 3, 1) := by decide +kernel
theorem dL_light_13 : decode cL_light 13 = .ok (.iconst 1, 1) := by decide +kernel
theorem dL_light_14 : decode cL_light 14 = .ok (.ireturn, 1) := by decide +kernel
theorem dL_light_15 : decode cL_light 15 = .ok (.iconst 0, 1) := by decide +kernel
theorem dL_light_16 : decode cL_light 16 = .ok (.ireturn, 1) := by decide +kernel
set_option maxRecDepth 20000 in
theorem ggL_preview_X3_preview : GoodIn wsL_preview wsX3_preview := goodIn_ca (goodIn_ca (goodIn_r _ [7, 8, 9, 10, 6, 11, 12, 13, 14, 15, 16, 17, 18, 19, 20, 21, 22, 23, 24, 25, 26, 27, 28, 29, 30, 31, 32, 33, 34, 35, 36, 37, 38, 39, 40, 41, 42, 43, 44, 45, 46, 47, 48, 49, 50, 51, 52, 53, 54, 55, 56, 57, 58, 59, 60, 61, 62, 63, 64, 65, 66, 67, 68, 69, 70, 71, 72, 73, 74, 75, 76, 77, 78, 79, 80, 81, 82, 83, 84, 85, 86, 87, 88, 89, 90, 91, 92, 93, 94, 95, 96, 97, 98, 99, 100, 101, 102, 103, 104, 105] (by decide +kernel) (by decide +kernel)) (goodIn_sub (fun _ h => List.mem_cons_of_mem _ (List.mem_append_left _ (List.mem_append_right _ h))) (by decide +kernel))) (goodIn_sub (fun _ h => List.mem_cons_of_mem _ (List.mem_append_right _ h)) (by decide +kernel))
set_option maxRecDepth 20000 in
theorem gL_preview_X3_preview : GoodIn wsL_preview (wsV RL 65 RX3 yX3_preview wsX3_preview) := goodIn_app (goodIn_of _ (by decide +kernel)) ggL_preview_X3_preview
theorem dL_preview_0 : decode cL_preview 0 = .ok (.aload 4, 2) := by decide +kernel
theorem dL_preview_2 : decode cL_preview 2 = .ok (.iconst 0, 1) := by decide +kernel
theorem dL_preview_3 : decode cL_preview 3 = .ok (.aload_n 0, 1) := by decide +kernel
theorem dL_preview_4 : decode cL_preview 4 = .ok (.iload_n 1, 1) := by decide +kernel
theorem dL_preview_5 : decode cL_preview 5 = .ok (.iload_n 2, 1) := by decide +kernel
theorem dL_preview_6 : decode cL_preview 6 = .ok (.iload_n 3, 1) := by decide +kernel
theorem dL_preview_7 : decode cL_preview 7 = .ok (.invokevirtual 65, 3) := by decide +kernel
theorem dL_preview_10 : decode cL_preview 10 = .ok (.i2l, 1) := by decide +kernel
theorem dL_preview_11 : decode cL_preview 11 = .ok (.lastore, 1) := by decide +kernel
theorem dL_preview_12 : decode cL_preview 12 = .ok (.goto 11, 3) := by decide +kernel
theorem dL_preview_15 : decode cL_preview 15 = .ok (.astore 5, 2) := by decide +kernel
theorem dL_preview_17 : decode cL_preview 17 = .ok (.iconst 1, 1) := by decide +kernel
theorem dL_preview_18 : decode cL_preview 18 = .ok (.ireturn, 1) := by decide +kernel
theorem dL_preview_19 : decode cL_preview 19 = .ok (.astore 5, 2) := by decide +kernel
theorem dL_preview_21 : decode cL_preview 21 = .ok (.iconst 2, 1) := by decide +kernel
theorem dL_preview_22 : decode cL_preview 22 = .ok (.ireturn, 1) := by decide +kernel
theorem dL_preview_23 : decode cL_preview 23 = .ok (.iconst 0, 1) := by decide +kernel
theorem dL_preview_24 : decode cL_preview 24 = .ok (.ireturn, 1) := by decide +kernel
set_option maxRecDepth 20000 in
theorem ggL_touched_X3_touched : GoodIn wsL_touched wsX3_touched := goodIn_ca (goodIn_ca (goodIn_r _ [7, 8, 9, 10, 11, 12, 13, 6, 14, 15, 16, 17, 18, 19, 20, 21, 22, 23, 24, 25, 26, 27, 28, 29, 30, 31, 32, 33, 34, 35, 36, 37, 38, 39, 40, 41, 42, 43, 44, 45, 46, 47, 48, 49, 50, 51, 52, 53, 54, 55, 56, 57, 58, 59, 60, 61, 62, 63, 64, 65, 66, 67, 68, 69, 70, 71, 72, 73, 74, 75, 76, 77, 78, 79, 80, 81, 82, 83, 84, 85, 86, 87, 88, 89, 90, 91, 92, 93, 94, 95, 96, 97, 98, 99, 100, 101, 102, 103, 104, 105, 106] (by decide +kernel) (by decide +kernel)) (goodIn_sub (fun _ h => List.mem_cons_of_mem _ (List.mem_append_left _ (List.mem_append_right _ h))) (by decide +kernel))) (goodIn_sub (fun _ h => List.mem_cons_of_mem _ (List.mem_append_right _ h)) (by decide +kernel))
set_option maxRecDepth 20000 in
theorem gL_touched_X3_touched : GoodIn wsL_touched (wsV RL 68 RX3 yX3_touched wsX3_touched) := goodIn_app (goodIn_of _ (by decide +kernel)) ggL_touched_X3_touched
theorem dL_touched_0 : decode cL_touched 0 = .ok (.aload 5, 2) := by decide +kernel
theorem dL_touched_2 : decode cL_touched 2 = .ok (.iconst 0, 1) := by decide +kernel
theorem dL_touched_3 : decode cL_touched 3 = .ok (.aload_n 0, 1) := by decide +kernel
theorem dL_touched_4 : decode cL_touched 4 = .ok (.iload_n 1, 1) := by decide +kernel
theorem dL_touched_5 : decode cL_touched 5 = .ok (.iload_n 2, 1) := by decide +kernel
theorem dL_touched_6 : decode cL_touched 6 = .ok (.iload_n 3, 1) := by decide +kernel
theorem dL_touched_7 : decode cL_touched 7 = .ok (.iload 4, 2) := by decide +kernel
theorem dL_touched_9 : decode cL_touched 9 = .ok (.invokevirtual 68, 3) := by decide +kernel
theorem dL_touched_12 : decode cL_touched 12 = .ok (.i2l, 1) := by decide +kernel
theorem dL_touched_13 : decode cL_touched 13 = .ok (.lastore, 1) := by decide +kernel
theorem dL_touched_14 : decode cL_touched 14 = .ok (.goto 11, 3) := by decide +kernel
theorem dL_touched_17 : decode cL_touched 17 = .ok (.astore 6, 2) := by decide +kernel
theorem dL_touched_19 : decode cL_touched 19 = .ok (.iconst 1, 1) := by decide +kernel
theorem dL_touched_20 : decode cL_touched 20 = .ok (.ireturn, 1) := by decide +kernel
theorem dL_touched_21 : decode cL_touched 21 = .ok (.astore 6, 2) := by decide +kernel
theorem dL_touched_23 : decode cL_touched 23 = .ok (.iconst 2, 1) := by decide +kernel
theorem dL_touched_24 : decode cL_touched 24 = .ok (.ireturn, 1) := by decide +kernel
theorem dL_touched_25 : decode cL_touched 25 = .ok (.iconst 0, 1) := by decide +kernel
theorem dL_touched_26 : decode cL_touched 26 = .ok (.ireturn, 1) := by decide +kernel
set_option maxRecDepth 20000 in
theorem ggL_law_X3_init : GoodIn wsL_law wsX3_init := goodIn_r _ [9, 10, 11, 12, 13, 14, 15, 16, 17, 18, 19, 20, 21, 22, 23, 24, 25, 26, 27, 28, 29, 30, 31, 32, 33, 34, 35, 36, 37, 38, 39, 40, 41, 42, 43, 44, 45, 46, 47, 48, 49, 50, 51, 52, 53, 54, 55, 56, 57, 58, 59, 588, 589, 590, 591, 558, 559, 560, 561, 562, 563, 564, 592, 593, 594, 595, 596, 597, 598, 599, 600, 601, 602, 603] (by decide +kernel) (by decide +kernel)
set_option maxRecDepth 20000 in
theorem gL_law_X3_init : GoodIn wsL_law (wsX3_init) := ggL_law_X3_init
set_option maxRecDepth 20000 in
theorem ggL_law_X4_init : GoodIn wsL_law wsX4_init := goodIn_r _ [62, 63, 11, 12, 28, 64, 65, 66, 67, 68, 69, 70, 71, 72, 73, 74, 75, 76, 77, 78, 79, 80, 81, 565, 566, 567, 568, 569, 570, 571, 572, 573, 574, 575, 576, 577, 578, 579, 580, 581, 582, 583, 584, 585, 586, 587] (by decide +kernel) (by decide +kernel)
set_option maxRecDepth 20000 in
theorem gL_law_X4_init : GoodIn wsL_law (wsX4_init) := ggL_law_X4_init
set_option maxRecDepth 20000 in
theorem ggL_law_L_addLamp : GoodIn wsL_law wsL_addLamp := goodIn_ca (goodIn_ca (goodIn_r _ [85, 86, 87, 88, 89, 90, 2, 91, 92, 93, 16, 94, 95, 96, 97, 98, 99, 100, 101, 15, 102, 103, 104, 105, 106, 107, 108, 109, 110, 111, 34, 35, 112, 113, 114, 115, 558, 559, 560, 561, 562, 563, 564, 588, 589, 590, 591] (by decide +kernel) (by decide +kernel)) (goodIn_sub (fun _ h => List.mem_append_left _ (List.mem_append_left _ (List.mem_append_right _ h))) (by decide +kernel))) (goodIn_sub (fun _ h => List.mem_append_left _ (List.mem_append_right _ h)) (by decide +kernel))
set_option maxRecDepth 20000 in
theorem gL_law_L_addLamp : GoodIn wsL_law (va_wsS RL 75 yL_addLamp wsL_addLamp) := goodIn_app (goodIn_of _ (by decide +kernel)) ggL_law_L_addLamp
set_option maxRecDepth 20000 in
theorem ggL_law_X4_addLamp : GoodIn wsL_law wsX4_addLamp := goodIn_r _ [119, 120, 121, 64, 65, 122, 123, 5, 124, 125, 126, 127, 565, 566, 567, 568, 569, 570, 571, 572, 573, 574, 575, 576, 577, 578, 579, 580, 581, 582, 583, 584, 585, 586, 587] (by decide +kernel) (by decide +kernel)
set_option maxRecDepth 20000 in
theorem gL_law_X4_addLamp : GoodIn wsL_law (wsV RL 80 RX4 yX4_addLamp wsX4_addLamp) := goodIn_app (goodIn_of _ (by decide +kernel)) ggL_law_X4_addLamp
set_option maxRecDepth 20000 in
theorem ggL_law_X4_thrown : GoodIn wsL_law wsX4_thrown := goodIn_r _ [131, 121, 565, 566, 567, 568, 569, 570, 571, 572, 573, 574, 575, 576, 577, 578, 579, 580, 581, 582, 583, 584, 585, 586, 587] (by decide +kernel) (by decide +kernel)
set_option maxRecDepth 20000 in
theorem gL_law_X4_thrown : GoodIn wsL_law (wsV RL 81 RX4 yX4_thrown wsX4_thrown) := goodIn_app (goodIn_of _ (by decide +kernel)) ggL_law_X4_thrown
set_option maxRecDepth 20000 in
theorem ggL_law_L_swap : GoodIn wsL_law wsL_swap := goodIn_ca (goodIn_ca (goodIn_r _ [134, 135, 86, 136, 137, 138, 2, 139, 25, 16, 140, 141, 142, 143, 144, 145, 146, 113, 114, 15, 115, 103, 94, 95, 96, 97, 98, 147, 148, 149, 150, 34, 112, 151, 152, 153, 154, 35, 155, 156, 157, 24, 158, 159, 160, 161, 162, 163, 164, 165, 166, 167, 168, 59, 169, 170, 171, 172, 109, 110, 111, 558, 559, 560, 561, 562, 563, 564, 588, 589, 590, 591, 601, 602, 603] (by decide +kernel) (by decide +kernel)) (goodIn_sub (fun _ h => List.mem_append_right _ h) (by decide +kernel))) (goodIn_sub (fun _ h => List.mem_append_left _ (List.mem_append_right _ h)) (by decide +kernel))
set_option maxRecDepth 20000 in
theorem gL_law_L_swap : GoodIn wsL_law (va_wsS RL 84 yL_swap wsL_swap) := goodIn_app (goodIn_of _ (by decide +kernel)) ggL_law_L_swap
set_option maxRecDepth 20000 in
theorem ggL_law_X4_swap : GoodIn wsL_law wsX4_swap := goodIn_r _ [176, 121, 64, 65, 177, 178, 179, 5, 180, 120, 125, 126, 127, 122, 123, 124, 181, 182, 183, 184, 185, 78, 79, 80, 81, 565, 566, 567, 568, 569, 570, 571, 572, 573, 574, 575, 576, 577, 578, 579, 580, 581, 582, 583, 584, 585, 586, 587] (by decide +kernel) (by decide +kernel)
set_option maxRecDepth 20000 in
theorem gL_law_X4_swap : GoodIn wsL_law (wsV RL 87 RX4 yX4_swap wsX4_swap) := goodIn_app (goodIn_of _ (by decide +kernel)) ggL_law_X4_swap
set_option maxRecDepth 20000 in
theorem ggL_law_L_hang : GoodIn wsL_law wsL_hang := goodIn_ca (goodIn_ca (goodIn_r _ [188, 135, 86, 189, 190, 191, 2, 192, 16, 25, 140, 141, 142, 143, 144, 145, 146, 113, 114, 15, 115, 103, 193, 194, 195, 97, 98, 196, 197, 198, 199, 200, 201, 202, 203, 204, 205, 206, 207, 208, 209, 210, 211, 37, 112, 155, 156, 157, 24, 158, 159, 160, 161, 162, 163, 164, 165, 166, 167, 168, 59, 169, 170, 171, 212, 213, 214, 215, 558, 559, 560, 561, 562, 563, 564, 588, 589, 590, 591, 601, 602, 603] (by decide +kernel) (by decide +kernel)) (goodIn_sub (fun _ h => List.mem_append_right _ h) (by decide +kernel))) (goodIn_sub (fun _ h => List.mem_append_left _ (List.mem_append_right _ h)) (by decide +kernel))
set_option maxRecDepth 20000 in
theorem gL_law_L_hang : GoodIn wsL_law (va_wsS RL 88 yL_hang wsL_hang) := goodIn_app (goodIn_of _ (by decide +kernel)) ggL_law_L_hang
set_option maxRecDepth 20000 in
theorem ggL_law_X4_hang : GoodIn wsL_law wsX4_hang := goodIn_r _ [219, 121, 66, 177, 178, 179, 5, 180, 120, 125, 126, 127, 220, 221, 222, 223, 224, 225, 181, 182, 183, 184, 185, 78, 79, 80, 81, 565, 566, 567, 568, 569, 570, 571, 572, 573, 574, 575, 576, 577, 578, 579, 580, 581, 582, 583, 584, 585, 586, 587] (by decide +kernel) (by decide +kernel)
set_option maxRecDepth 20000 in
theorem gL_law_X4_hang : GoodIn wsL_law (wsV RL 91 RX4 yX4_hang wsX4_hang) := goodIn_app (goodIn_of _ (by decide +kernel)) ggL_law_X4_hang
set_option maxRecDepth 20000 in
theorem ggL_law_L_setNight : GoodIn wsL_law wsL_setNight := goodIn_ca (goodIn_r _ [228, 86, 229, 230, 231, 2, 232, 233, 193, 194, 195, 97, 98, 196, 197, 198, 558, 559, 560, 561, 562, 563, 564] (by decide +kernel) (by decide +kernel)) (goodIn_sub (fun _ h => List.mem_append_left _ (List.mem_append_right _ h)) (by decide +kernel))
set_option maxRecDepth 20000 in
theorem gL_law_L_setNight : GoodIn wsL_law (va_wsS RL 92 yL_setNight wsL_setNight) := goodIn_app (goodIn_of _ (by decide +kernel)) ggL_law_L_setNight
set_option maxRecDepth 20000 in
theorem ggL_law_X4_setNight : GoodIn wsL_law wsX4_setNight := goodIn_r _ [237, 121, 238, 220, 221, 5, 222, 125, 126, 127, 565, 566, 567, 568, 569, 570, 571, 572, 573, 574, 575, 576, 577, 578, 579, 580, 581, 582, 583, 584, 585, 586, 587] (by decide +kernel) (by decide +kernel)
set_option maxRecDepth 20000 in
theorem gL_law_X4_setNight : GoodIn wsL_law (wsV RL 95 RX4 yX4_setNight wsX4_setNight) := goodIn_app (goodIn_of _ (by decide +kernel)) ggL_law_X4_setNight
set_option maxRecDepth 20000 in
theorem ggL_law_L_setLatest : GoodIn wsL_law wsL_setLatest := goodIn_ca (goodIn_r _ [241, 86, 242, 243, 244, 2, 245, 27, 202, 203, 204, 97, 98, 205, 206, 207, 558, 559, 560, 561, 562, 563, 564] (by decide +kernel) (by decide +kernel)) (goodIn_sub (fun _ h => List.mem_append_left _ (List.mem_append_right _ h)) (by decide +kernel))
set_option maxRecDepth 20000 in
theorem gL_law_L_setLatest : GoodIn wsL_law (va_wsS RL 96 yL_setLatest wsL_setLatest) := goodIn_app (goodIn_of _ (by decide +kernel)) ggL_law_L_setLatest
set_option maxRecDepth 20000 in
theorem ggL_law_X4_setLatest : GoodIn wsL_law wsX4_setLatest := goodIn_r _ [249, 121, 67, 223, 224, 5, 225, 125, 126, 127, 565, 566, 567, 568, 569, 570, 571, 572, 573, 574, 575, 576, 577, 578, 579, 580, 581, 582, 583, 584, 585, 586, 587] (by decide +kernel) (by decide +kernel)
set_option maxRecDepth 20000 in
theorem gL_law_X4_setLatest : GoodIn wsL_law (wsV RL 99 RX4 yX4_setLatest wsX4_setLatest) := goodIn_app (goodIn_of _ (by decide +kernel)) ggL_law_X4_setLatest
set_option maxRecDepth 20000 in
theorem ggL_law_L_addCue : GoodIn wsL_law wsL_addCue := goodIn_ca (goodIn_ca (goodIn_r _ [252, 86, 87, 253, 254, 255, 2, 256, 92, 93, 257, 258, 259, 97, 98, 260, 261, 262, 263, 264, 265, 266, 20, 21, 267, 268, 269, 19, 270, 271, 272, 273, 274, 275, 46, 47, 48, 558, 559, 560, 561, 562, 563, 564, 592, 593, 594, 595, 596, 597, 598, 599, 600] (by decide +kernel) (by decide +kernel)) (goodIn_sub (fun _ h => List.mem_append_left _ (List.mem_append_left _ (List.mem_append_right _ h))) (by decide +kernel))) (goodIn_sub (fun _ h => List.mem_append_left _ (List.mem_append_right _ h)) (by decide +kernel))
set_option maxRecDepth 20000 in
theorem gL_law_L_addCue : GoodIn wsL_law (va_wsS RL 100 yL_addCue wsL_addCue) := goodIn_app (goodIn_of _ (by decide +kernel)) ggL_law_L_addCue
set_option maxRecDepth 20000 in
theorem ggL_law_X4_addCue : GoodIn wsL_law wsX4_addCue := goodIn_r _ [279, 121, 69, 70, 71, 72, 280, 281, 5, 282, 125, 126, 127, 283, 284, 285, 286, 565, 566, 567, 568, 569, 570, 571, 572, 573, 574, 575, 576, 577, 578, 579, 580, 581, 582, 583, 584, 585, 586, 587] (by decide +kernel) (by decide +kernel)
set_option maxRecDepth 20000 in
theorem gL_law_X4_addCue : GoodIn wsL_law (wsV RL 103 RX4 yX4_addCue wsX4_addCue) := goodIn_app (goodIn_of _ (by decide +kernel)) ggL_law_X4_addCue
set_option maxRecDepth 20000 in
theorem ggL_law_L_setLevel : GoodIn wsL_law wsL_setLevel := goodIn_ca (goodIn_ca (goodIn_r _ [289, 86, 135, 290, 291, 292, 2, 293, 25, 257, 258, 259, 97, 98, 202, 203, 204, 205, 206, 207, 294, 295, 296, 297, 298, 299, 300, 144, 145, 263, 264, 265, 266, 20, 21, 301, 302, 303, 19, 304, 271, 305, 306, 307, 308, 50, 309, 155, 156, 157, 24, 158, 159, 160, 161, 162, 163, 164, 165, 166, 167, 168, 59, 169, 170, 171, 310, 311, 312, 313, 558, 559, 560, 561, 562, 563, 564, 592, 593, 594, 595, 596, 597, 598, 599, 600, 601, 602, 603] (by decide +kernel) (by decide +kernel)) (goodIn_sub (fun _ h => List.mem_append_left _ (List.mem_append_right _ h)) (by decide +kernel))) (goodIn_sub (fun _ h => List.mem_append_right _ h) (by decide +kernel))
set_option maxRecDepth 20000 in
theorem gL_law_L_setLevel : GoodIn wsL_law (va_wsS RL 104 yL_setLevel wsL_setLevel) := goodIn_app (goodIn_of _ (by decide +kernel)) ggL_law_L_setLevel
set_option maxRecDepth 20000 in
theorem ggL_law_X4_setLevel : GoodIn wsL_law wsX4_setLevel := goodIn_r _ [317, 69, 121, 73, 280, 281, 5, 282, 125, 126, 127, 223, 224, 225, 181, 182, 183, 184, 185, 78, 79, 80, 81, 565, 566, 567, 568, 569, 570, 571, 572, 573, 574, 575, 576, 577, 578, 579, 580, 581, 582, 583, 584, 585, 586, 587] (by decide +kernel) (by decide +kernel)
set_option maxRecDepth 20000 in
theorem gL_law_X4_setLevel : GoodIn wsL_law (wsV RL 107 RX4 yX4_setLevel wsX4_setLevel) := goodIn_app (goodIn_of _ (by decide +kernel)) ggL_law_X4_setLevel
set_option maxRecDepth 20000 in
theorem ggL_law_L_undo : GoodIn wsL_law wsL_undo := goodIn_ca (goodIn_r _ [320, 87, 321, 322, 323, 2, 324, 92, 93, 25, 325, 326, 327, 24, 328, 160, 329, 330, 331, 332, 16, 333, 334, 335, 336, 59, 337, 338, 339, 340, 159, 169, 170, 171, 172, 109, 110, 15, 111, 34, 35, 112, 113, 114, 115, 103, 212, 213, 214, 215, 37, 197, 198, 263, 264, 265, 266, 20, 21, 310, 311, 312, 19, 313, 50, 309, 302, 303, 304, 271, 206, 207, 341, 342, 343, 344, 345, 346, 163, 347, 348, 349, 350, 351, 558, 559, 560, 561, 562, 563, 564, 601, 602, 603, 588, 589, 590, 591, 592, 593, 594, 595, 596, 597, 598, 599, 600] (by decide +kernel) (by decide +kernel)) (goodIn_sub (fun _ h => List.mem_append_left _ (List.mem_append_left _ (List.mem_append_right _ h))) (by decide +kernel))
set_option maxRecDepth 20000 in
theorem gL_law_L_undo : GoodIn wsL_law (va_wsS RL 108 yL_undo wsL_undo) := goodIn_app (goodIn_of _ (by decide +kernel)) ggL_law_L_undo
set_option maxRecDepth 20000 in
theorem ggL_law_X4_undo : GoodIn wsL_law wsX4_undo := goodIn_r _ [355, 185, 121, 79, 78, 64, 80, 65, 81, 66, 73, 565, 566, 567, 568, 569, 570, 571, 572, 573, 574, 575, 576, 577, 578, 579, 580, 581, 582, 583, 584, 585, 586, 587] (by decide +kernel) (by decide +kernel)
set_option maxRecDepth 20000 in
theorem gL_law_X4_undo : GoodIn wsL_law (wsV RL 111 RX4 yX4_undo wsX4_undo) := goodIn_app (goodIn_of _ (by decide +kernel)) ggL_law_X4_undo
set_option maxRecDepth 20000 in
theorem ggL_law_L_go : GoodIn wsL_law wsL_go := goodIn_ca (goodIn_ca (goodIn_r _ [358, 86, 135, 359, 360, 361, 2, 362, 257, 258, 259, 97, 98, 297, 298, 299, 300, 144, 145, 263, 264, 265, 266, 20, 21, 301, 302, 303, 19, 304, 271, 363, 364, 365, 366, 367, 306, 307, 308, 50, 309, 206, 207, 368, 369, 370, 371, 372, 373, 374, 375, 51, 52, 53, 376, 377, 378, 379, 380, 47, 46, 381, 382, 383, 384, 29, 305, 385, 386, 387, 388, 389, 390, 391, 392, 48, 558, 559, 560, 561, 562, 563, 564, 592, 593, 594, 595, 596, 597, 598, 599, 600] (by decide +kernel) (by decide +kernel)) (goodIn_sub (fun _ h => List.mem_append_left _ (List.mem_append_right _ h)) (by decide +kernel))) (goodIn_sub (fun _ h => List.mem_append_right _ h) (by decide +kernel))
set_option maxRecDepth 20000 in
theorem gL_law_L_go : GoodIn wsL_law (va_wsS RL 112 yL_go wsL_go) := goodIn_app (goodIn_of _ (by decide +kernel)) ggL_law_L_go
set_option maxRecDepth 20000 in
theorem ggL_law_X4_go : GoodIn wsL_law wsX4_go := goodIn_r _ [396, 69, 121, 73, 280, 281, 5, 282, 125, 126, 127, 397, 398, 399, 400, 76, 77, 68, 74, 75, 401, 402, 403, 404, 405, 70, 71, 406, 407, 408, 409, 72, 565, 566, 567, 568, 569, 570, 571, 572, 573, 574, 575, 576, 577, 578, 579, 580, 581, 582, 583, 584, 585, 586, 587] (by decide +kernel) (by decide +kernel)
set_option maxRecDepth 20000 in
theorem gL_law_X4_go : GoodIn wsL_law (wsV RL 114 RX4 yX4_go wsX4_go) := goodIn_app (goodIn_of _ (by decide +kernel)) ggL_law_X4_go
set_option maxRecDepth 20000 in
theorem ggL_law_L_pass : GoodIn wsL_law wsL_pass := goodIn_ca (goodIn_r _ [412, 86, 413, 414, 415, 2, 416, 97, 98, 417, 418, 419, 420, 263, 264, 265, 266, 20, 21, 421, 422, 423, 19, 424, 376, 425, 386, 387, 388, 53, 46, 47, 309, 302, 303, 304, 271, 389, 390, 391, 392, 48, 368, 369, 370, 371, 372, 373, 374, 375, 51, 52, 377, 378, 379, 380, 206, 207, 367, 306, 307, 308, 50, 381, 382, 383, 384, 29, 305, 385, 558, 559, 560, 561, 562, 563, 564, 592, 593, 594, 595, 596, 597, 598, 599, 600] (by decide +kernel) (by decide +kernel)) (goodIn_sub (fun _ h => List.mem_append_left _ (List.mem_append_right _ h)) (by decide +kernel))
set_option maxRecDepth 20000 in
theorem gL_law_L_pass : GoodIn wsL_law (va_wsS RL 115 yL_pass wsL_pass) := goodIn_app (goodIn_of _ (by decide +kernel)) ggL_law_L_pass
set_option maxRecDepth 20000 in
theorem ggL_law_X4_pass : GoodIn wsL_law wsX4_pass := goodIn_r _ [429, 121, 401, 125, 126, 5, 127, 406, 407, 408, 409, 74, 75, 70, 71, 69, 72, 397, 398, 399, 400, 76, 77, 73, 68, 402, 403, 404, 405, 565, 566, 567, 568, 569, 570, 571, 572, 573, 574, 575, 576, 577, 578, 579, 580, 581, 582, 583, 584, 585, 586, 587] (by decide +kernel) (by decide +kernel)
set_option maxRecDepth 20000 in
theorem gL_law_X4_pass : GoodIn wsL_law (wsV RL 117 RX4 yX4_pass wsX4_pass) := goodIn_app (goodIn_of _ (by decide +kernel)) ggL_law_X4_pass
set_option maxRecDepth 20000 in
theorem ggL_law_L_running : GoodIn wsL_law wsL_running := goodIn_ca (goodIn_r _ [432, 86, 433, 434, 435, 2, 436, 257, 258, 259, 97, 98, 263, 264, 265, 266, 20, 21, 437, 438, 439, 19, 440, 53, 558, 559, 560, 561, 562, 563, 564, 592, 593, 594, 595, 596, 597, 598, 599, 600] (by decide +kernel) (by decide +kernel)) (goodIn_sub (fun _ h => List.mem_append_left _ (List.mem_append_right _ h)) (by decide +kernel))
set_option maxRecDepth 20000 in
theorem gL_law_L_running : GoodIn wsL_law (va_wsS RL 118 yL_running wsL_running) := goodIn_app (goodIn_of _ (by decide +kernel)) ggL_law_L_running
set_option maxRecDepth 20000 in
theorem ggL_law_X4_running : GoodIn wsL_law wsX4_running := goodIn_r _ [444, 121, 74, 280, 281, 5, 282, 125, 126, 127, 565, 566, 567, 568, 569, 570, 571, 572, 573, 574, 575, 576, 577, 578, 579, 580, 581, 582, 583, 584, 585, 586, 587] (by decide +kernel) (by decide +kernel)
set_option maxRecDepth 20000 in
theorem gL_law_X4_running : GoodIn wsL_law (wsV RL 120 RX4 yX4_running wsX4_running) := goodIn_app (goodIn_of _ (by decide +kernel)) ggL_law_X4_running
set_option maxRecDepth 20000 in
theorem ggL_law_L_level : GoodIn wsL_law wsL_level := goodIn_ca (goodIn_r _ [447, 86, 448, 449, 450, 2, 451, 257, 258, 259, 97, 98, 202, 203, 204, 205, 206, 207, 263, 264, 265, 266, 20, 21, 452, 378, 379, 19, 380, 53, 47, 376, 46, 51, 52, 309, 302, 303, 304, 271, 558, 559, 560, 561, 562, 563, 564, 592, 593, 594, 595, 596, 597, 598, 599, 600] (by decide +kernel) (by decide +kernel)) (goodIn_sub (fun _ h => List.mem_append_left _ (List.mem_append_right _ h)) (by decide +kernel))
set_option maxRecDepth 20000 in
theorem gL_law_L_level : GoodIn wsL_law (va_wsS RL 121 yL_level wsL_level) := goodIn_app (goodIn_of _ (by decide +kernel)) ggL_law_L_level
set_option maxRecDepth 20000 in
theorem ggL_law_X4_level : GoodIn wsL_law wsX4_level := goodIn_r _ [456, 121, 280, 281, 5, 282, 125, 126, 127, 223, 224, 225, 402, 403, 404, 405, 77, 76, 74, 401, 75, 70, 71, 565, 566, 567, 568, 569, 570, 571, 572, 573, 574, 575, 576, 577, 578, 579, 580, 581, 582, 583, 584, 585, 586, 587] (by decide +kernel) (by decide +kernel)
set_option maxRecDepth 20000 in
theorem gL_law_X4_level : GoodIn wsL_law (wsV RL 123 RX4 yX4_level wsX4_level) := goodIn_app (goodIn_of _ (by decide +kernel)) ggL_law_X4_level
set_option maxRecDepth 20000 in
theorem ggL_law_L_merged : GoodIn wsL_law wsL_merged := goodIn_ca (goodIn_r _ [459, 86, 460, 461, 462, 2, 463, 202, 203, 204, 97, 98, 205, 206, 207, 464, 465, 466, 467, 20, 21, 27, 29, 468, 346, 163, 347, 452, 378, 379, 19, 380, 53, 47, 376, 46, 51, 52, 309, 302, 303, 304, 271, 558, 559, 560, 561, 562, 563, 564, 592, 593, 594, 595, 596, 597, 598, 599, 600] (by decide +kernel) (by decide +kernel)) (goodIn_sub (fun _ h => List.mem_append_left _ (List.mem_append_right _ h)) (by decide +kernel))
set_option maxRecDepth 20000 in
theorem gL_law_L_merged : GoodIn wsL_law (va_wsS RL 124 yL_merged wsL_merged) := goodIn_app (goodIn_of _ (by decide +kernel)) ggL_law_L_merged
set_option maxRecDepth 20000 in
theorem ggL_law_X4_merged : GoodIn wsL_law wsX4_merged := goodIn_r _ [472, 121, 223, 224, 5, 225, 125, 126, 127, 473, 474, 475, 476, 67, 68, 402, 403, 404, 405, 77, 76, 74, 401, 75, 70, 71, 565, 566, 567, 568, 569, 570, 571, 572, 573, 574, 575, 576, 577, 578, 579, 580, 581, 582, 583, 584, 585, 586, 587] (by decide +kernel) (by decide +kernel)
set_option maxRecDepth 20000 in
theorem gL_law_X4_merged : GoodIn wsL_law (wsV RL 126 RX4 yX4_merged wsX4_merged) := goodIn_app (goodIn_of _ (by decide +kernel)) ggL_law_X4_merged
set_option maxRecDepth 20000 in
theorem ggL_law_L_light : GoodIn wsL_law wsL_light := goodIn_ca (goodIn_r _ [479, 86, 480, 481, 482, 2, 483, 16, 233, 202, 203, 204, 97, 98, 205, 206, 207, 464, 465, 466, 467, 20, 21, 27, 29, 468, 346, 163, 347, 452, 378, 379, 19, 380, 53, 47, 376, 46, 51, 52, 309, 302, 303, 304, 271, 484, 485, 486, 15, 487, 103, 488, 209, 210, 211, 37, 197, 198, 112, 113, 114, 115, 489, 490, 491, 492, 493, 148, 149, 150, 34, 494, 152, 153, 154, 35, 495, 496, 497, 558, 559, 560, 561, 562, 563, 564, 592, 593, 594, 595, 596, 597, 598, 599, 600, 588, 589, 590, 591] (by decide +kernel) (by decide +kernel)) (goodIn_sub (fun _ h => List.mem_append_left _ (List.mem_append_right _ h)) (by decide +kernel))
set_option maxRecDepth 20000 in
theorem gL_law_L_light : GoodIn wsL_law (va_wsS RL 127 yL_light wsL_light) := goodIn_app (goodIn_of _ (by decide +kernel)) ggL_law_L_light
set_option maxRecDepth 20000 in
theorem ggL_law_X4_light : GoodIn wsL_law wsX4_light := goodIn_r _ [501, 121, 238, 223, 224, 5, 225, 125, 126, 127, 473, 474, 475, 476, 67, 68, 402, 403, 404, 405, 77, 76, 74, 401, 75, 70, 71, 502, 503, 504, 505, 120, 66, 64, 65, 506, 507, 508, 565, 566, 567, 568, 569, 570, 571, 572, 573, 574, 575, 576, 577, 578, 579, 580, 581, 582, 583, 584, 585, 586, 587] (by decide +kernel) (by decide +kernel)
set_option maxRecDepth 20000 in
theorem gL_law_X4_light : GoodIn wsL_law (wsV RL 129 RX4 yX4_light wsX4_light) := goodIn_app (goodIn_of _ (by decide +kernel)) ggL_law_X4_light
set_option maxRecDepth 20000 in
theorem ggL_law_X3_allLight : GoodIn wsL_law wsX3_allLight := goodIn_r _ [512, 16, 233, 464, 465, 466, 2, 467, 20, 21, 27, 29, 468, 346, 163, 347, 452, 378, 379, 19, 380, 53, 47, 376, 46, 51, 52, 309, 302, 303, 304, 271, 206, 207, 205, 484, 485, 486, 15, 487, 103, 488, 209, 210, 211, 37, 197, 198, 112, 113, 114, 115, 489, 490, 491, 492, 493, 148, 149, 150, 34, 494, 152, 153, 154, 35, 495, 496, 497, 558, 559, 560, 561, 562, 563, 564, 592, 593, 594, 595, 596, 597, 598, 599, 600, 588, 589, 590, 591] (by decide +kernel) (by decide +kernel)
set_option maxRecDepth 20000 in
theorem gL_law_X3_allLight : GoodIn wsL_law (wsV RL 130 RX3 yX3_allLight wsX3_allLight) := goodIn_app (goodIn_of _ (by decide +kernel)) ggL_law_X3_allLight
set_option maxRecDepth 20000 in
theorem ggL_law_X4_allLight : GoodIn wsL_law wsX4_allLight := goodIn_r _ [516, 121, 238, 473, 474, 475, 5, 476, 67, 68, 402, 403, 404, 405, 77, 76, 74, 401, 75, 70, 71, 502, 503, 504, 505, 120, 66, 64, 65, 506, 507, 508, 565, 566, 567, 568, 569, 570, 571, 572, 573, 574, 575, 576, 577, 578, 579, 580, 581, 582, 583, 584, 585, 586, 587] (by decide +kernel) (by decide +kernel)
set_option maxRecDepth 20000 in
theorem gL_law_X4_allLight : GoodIn wsL_law (wsV RL 133 RX4 yX4_allLight wsX4_allLight) := goodIn_app (goodIn_of _ (by decide +kernel)) ggL_law_X4_allLight
set_option maxRecDepth 20000 in
theorem ggL_law_L_preview : GoodIn wsL_law wsL_preview := goodIn_ca (goodIn_ca (goodIn_r _ [519, 86, 135, 520, 521, 522, 2, 523, 16, 257, 258, 259, 97, 98, 193, 194, 195, 196, 197, 198, 297, 298, 299, 300, 144, 145, 263, 264, 265, 266, 20, 21, 301, 302, 303, 19, 304, 271, 524, 525, 526, 527, 528, 346, 163, 347, 367, 306, 307, 308, 50, 309, 206, 207, 484, 485, 486, 15, 487, 103, 488, 209, 210, 211, 37, 112, 113, 114, 115, 489, 490, 491, 492, 493, 148, 149, 150, 34, 494, 152, 153, 154, 35, 495, 496, 497, 558, 559, 560, 561, 562, 563, 564, 592, 593, 594, 595, 596, 597, 598, 599, 600, 588, 589, 590, 591] (by decide +kernel) (by decide +kernel)) (goodIn_sub (fun _ h => List.mem_append_left _ (List.mem_append_right _ h)) (by decide +kernel))) (goodIn_sub (fun _ h => List.mem_append_right _ h) (by decide +kernel))
set_option maxRecDepth 20000 in
theorem gL_law_L_preview : GoodIn wsL_law (va_wsS RL 134 yL_preview wsL_preview) := goodIn_app (goodIn_of _ (by decide +kernel)) ggL_law_L_preview
set_option maxRecDepth 20000 in
theorem ggL_law_X4_preview : GoodIn wsL_law wsX4_preview := goodIn_r _ [532, 69, 121, 280, 281, 5, 282, 125, 126, 127, 220, 221, 222, 533, 534, 535, 536, 73, 502, 503, 504, 505, 120, 66, 64, 65, 506, 507, 508, 565, 566, 567, 568, 569, 570, 571, 572, 573, 574, 575, 576, 577, 578, 579, 580, 581, 582, 583, 584, 585, 586, 587] (by decide +kernel) (by decide +kernel)
set_option maxRecDepth 20000 in
theorem gL_law_X4_preview : GoodIn wsL_law (wsV RL 136 RX4 yX4_preview wsX4_preview) := goodIn_app (goodIn_of _ (by decide +kernel)) ggL_law_X4_preview
set_option maxRecDepth 20000 in
theorem ggL_law_L_touched : GoodIn wsL_law wsL_touched := goodIn_ca (goodIn_ca (goodIn_r _ [539, 135, 86, 540, 541, 542, 2, 543, 16, 20, 21, 140, 141, 142, 143, 144, 145, 146, 113, 114, 15, 115, 103, 94, 95, 96, 97, 98, 193, 194, 195, 196, 197, 198, 208, 209, 210, 211, 37, 112, 544, 545, 546, 547, 548, 549, 550, 19, 551, 271, 524, 525, 526, 527, 528, 346, 163, 347, 367, 306, 307, 308, 50, 309, 302, 303, 304, 206, 207, 552, 490, 491, 492, 493, 148, 149, 150, 34, 494, 152, 153, 154, 35, 495, 496, 497, 553, 558, 559, 560, 561, 562, 563, 564, 588, 589, 590, 591, 592, 593, 594, 595, 596, 597, 598, 599, 600] (by decide +kernel) (by decide +kernel)) (goodIn_sub (fun _ h => List.mem_append_right _ h) (by decide +kernel))) (goodIn_sub (fun _ h => List.mem_append_left _ (List.mem_append_right _ h)) (by decide +kernel))
set_option maxRecDepth 20000 in
theorem gL_law_L_touched : GoodIn wsL_law (va_wsS RL 137 yL_touched wsL_touched) := goodIn_app (goodIn_of _ (by decide +kernel)) ggL_law_L_touched
set_option maxRecDepth 20000 in
theorem ggL_law_X4_touched : GoodIn wsL_law wsX4_touched := goodIn_r _ [557, 121, 66, 69, 73, 64, 65, 177, 178, 179, 5, 180, 120, 125, 126, 127, 122, 123, 124, 220, 221, 222, 506, 507, 508, 565, 566, 567, 568, 569, 570, 571, 572, 573, 574, 575, 576, 577, 578, 579, 580, 581, 582, 583, 584, 585, 586, 587] (by decide +kernel) (by decide +kernel)
set_option maxRecDepth 20000 in
theorem gL_law_X4_touched : GoodIn wsL_law (wsV RL 139 RX4 yX4_touched wsX4_touched) := goodIn_app (goodIn_of _ (by decide +kernel)) ggL_law_X4_touched
theorem dL_law_0 : decode cL_law 0 = .ok (.new 8, 3) := by decide +kernel
theorem dL_law_3 : decode cL_law 3 = .ok (.dup, 1) := by decide +kernel
theorem dL_law_4 : decode cL_law 4 = .ok (.invokespecial 71, 3) := by decide +kernel
theorem dL_law_7 : decode cL_law 7 = .ok (.astore_n 1, 1) := by decide +kernel
theorem dL_law_8 : decode cL_law 8 = .ok (.new 72, 3) := by decide +kernel
theorem dL_law_11 : decode cL_law 11 = .ok (.dup, 1) := by decide +kernel
theorem dL_law_12 : decode cL_law 12 = .ok (.invokespecial 74, 3) := by decide +kernel
theorem dL_law_15 : decode cL_law 15 = .ok (.astore_n 2, 1) := by decide +kernel
theorem dL_law_16 : decode cL_law 16 = .ok (.iconst 1, 1) := by decide +kernel
theorem dL_law_17 : decode cL_law 17 = .ok (.newarray .long, 2) := by decide +kernel
theorem dL_law_19 : decode cL_law 19 = .ok (.astore_n 3, 1) := by decide +kernel
theorem dL_law_20 : decode cL_law 20 = .ok (.iconst 0, 1) := by decide +kernel
theorem dL_law_21 : decode cL_law 21 = .ok (.istore 4, 2) := by decide +kernel
theorem dL_law_23 : decode cL_law 23 = .ok (.iload 4, 2) := by decide +kernel
theorem dL_law_25 : decode cL_law 25 = .ok (.aload_n 0, 1) := by decide +kernel
theorem dL_law_26 : decode cL_law 26 = .ok (.arraylength, 1) := by decide +kernel
theorem dL_law_27 : decode cL_law 27 = .ok (.iconst 5, 1) := by decide +kernel
theorem dL_law_28 : decode cL_law 28 = .ok (.isub, 1) := by decide +kernel
theorem dL_law_29 : decode cL_law 29 = .ok (.if_icmp .gt 1241, 3) := by decide +kernel
theorem dL_law_32 : decode cL_law 32 = .ok (.aload_n 0, 1) := by decide +kernel
theorem dL_law_33 : decode cL_law 33 = .ok (.iload 4, 2) := by decide +kernel
theorem dL_law_35 : decode cL_law 35 = .ok (.iaload, 1) := by decide +kernel
theorem dL_law_36 : decode cL_law 36 = .ok (.bipush 31, 2) := by decide +kernel
theorem dL_law_38 : decode cL_law 38 = .ok (.iand, 1) := by decide +kernel
theorem dL_law_39 : decode cL_law 39 = .ok (.tableswitch 1225 0 16 #[81, 149, 209, 289, 345, 436, 544, 636, 680, 748, 804, 860, 928, 984, 1040, 1053, 1133], 81) := by decide +kernel
theorem dL_law_120 : decode cL_law 120 = .ok (.aload_n 1, 1) := by decide +kernel
theorem dL_law_121 : decode cL_law 121 = .ok (.aload_n 0, 1) := by decide +kernel
theorem dL_law_122 : decode cL_law 122 = .ok (.iload 4, 2) := by decide +kernel
theorem dL_law_124 : decode cL_law 124 = .ok (.iconst 1, 1) := by decide +kernel
theorem dL_law_125 : decode cL_law 125 = .ok (.iadd, 1) := by decide +kernel
theorem dL_law_126 : decode cL_law 126 = .ok (.iaload, 1) := by decide +kernel
theorem dL_law_127 : decode cL_law 127 = .ok (.aload_n 0, 1) := by decide +kernel
theorem dL_law_128 : decode cL_law 128 = .ok (.iload 4, 2) := by decide +kernel
theorem dL_law_130 : decode cL_law 130 = .ok (.iconst 2, 1) := by decide +kernel
theorem dL_law_131 : decode cL_law 131 = .ok (.iadd, 1) := by decide +kernel
theorem dL_law_132 : decode cL_law 132 = .ok (.iaload, 1) := by decide +kernel
theorem dL_law_133 : decode cL_law 133 = .ok (.aload_n 3, 1) := by decide +kernel
theorem dL_law_134 : decode cL_law 134 = .ok (.invokestatic 75, 3) := by decide +kernel
theorem dL_law_137 : decode cL_law 137 = .ok (.istore 5, 2) := by decide +kernel
theorem dL_law_139 : decode cL_law 139 = .ok (.aload_n 2, 1) := by decide +kernel
theorem dL_law_140 : decode cL_law 140 = .ok (.aload_n 0, 1) := by decide +kernel
theorem dL_law_141 : decode cL_law 141 = .ok (.iload 4, 2) := by decide +kernel
theorem dL_law_143 : decode cL_law 143 = .ok (.iconst 1, 1) := by decide +kernel
theorem dL_law_144 : decode cL_law 144 = .ok (.iadd, 1) := by decide +kernel
theorem dL_law_145 : decode cL_law 145 = .ok (.iaload, 1) := by decide +kernel
theorem dL_law_146 : decode cL_law 146 = .ok (.aload_n 0, 1) := by decide +kernel
theorem dL_law_147 : decode cL_law 147 = .ok (.iload 4, 2) := by decide +kernel
theorem dL_law_149 : decode cL_law 149 = .ok (.iconst 2, 1) := by decide +kernel
theorem dL_law_150 : decode cL_law 150 = .ok (.iadd, 1) := by decide +kernel
theorem dL_law_151 : decode cL_law 151 = .ok (.iaload, 1) := by decide +kernel
theorem dL_law_152 : decode cL_law 152 = .ok (.invokevirtual 80, 3) := by decide +kernel
theorem dL_law_155 : decode cL_law 155 = .ok (.istore 6, 2) := by decide +kernel
theorem dL_law_157 : decode cL_law 157 = .ok (.aload_n 2, 1) := by decide +kernel
theorem dL_law_158 : decode cL_law 158 = .ok (.invokevirtual 81, 3) := by decide +kernel
theorem dL_law_161 : decode cL_law 161 = .ok (.iload 5, 2) := by decide +kernel
theorem dL_law_163 : decode cL_law 163 = .ok (.if_icmp .eq 5, 3) := by decide +kernel
theorem dL_law_166 : decode cL_law 166 = .ok (.iconst 0, 1) := by decide +kernel
theorem dL_law_167 : decode cL_law 167 = .ok (.ireturn, 1) := by decide +kernel
theorem dL_law_168 : decode cL_law 168 = .ok (.iload 5, 2) := by decide +kernel
theorem dL_law_170 : decode cL_law 170 = .ok (.ifCond .ne 15, 3) := by decide +kernel
theorem dL_law_173 : decode cL_law 173 = .ok (.aload_n 3, 1) := by decide +kernel
theorem dL_law_174 : decode cL_law 174 = .ok (.iconst 0, 1) := by decide +kernel
theorem dL_law_175 : decode cL_law 175 = .ok (.laload, 1) := by decide +kernel
theorem dL_law_176 : decode cL_law 176 = .ok (.iload 6, 2) := by decide +kernel
theorem dL_law_178 : decode cL_law 178 = .ok (.i2l, 1) := by decide +kernel
theorem dL_law_179 : decode cL_law 179 = .ok (.lcmp, 1) := by decide +kernel
theorem dL_law_180 : decode cL_law 180 = .ok (.ifCond .eq 5, 3) := by decide +kernel
theorem dL_law_183 : decode cL_law 183 = .ok (.iconst 0, 1) := by decide +kernel
theorem dL_law_184 : decode cL_law 184 = .ok (.ireturn, 1) := by decide +kernel
theorem dL_law_185 : decode cL_law 185 = .ok (.goto 1079, 3) := by decide +kernel
theorem dL_law_188 : decode cL_law 188 = .ok (.aload_n 1, 1) := by decide +kernel
theorem dL_law_189 : decode cL_law 189 = .ok (.aload_n 0, 1) := by decide +kernel
theorem dL_law_190 : decode cL_law 190 = .ok (.iload 4, 2) := by decide +kernel
theorem dL_law_192 : decode cL_law 192 = .ok (.iconst 1, 1) := by decide +kernel
theorem dL_law_193 : decode cL_law 193 = .ok (.iadd, 1) := by decide +kernel
theorem dL_law_194 : decode cL_law 194 = .ok (.iaload, 1) := by decide +kernel
theorem dL_law_195 : decode cL_law 195 = .ok (.aload_n 0, 1) := by decide +kernel
theorem dL_law_196 : decode cL_law 196 = .ok (.iload 4, 2) := by decide +kernel
theorem dL_law_198 : decode cL_law 198 = .ok (.iconst 2, 1) := by decide +kernel
theorem dL_law_199 : decode cL_law 199 = .ok (.iadd, 1) := by decide +kernel
theorem dL_law_200 : decode cL_law 200 = .ok (.iaload, 1) := by decide +kernel
theorem dL_law_201 : decode cL_law 201 = .ok (.aload_n 0, 1) := by decide +kernel
theorem dL_law_202 : decode cL_law 202 = .ok (.iload 4, 2) := by decide +kernel
theorem dL_law_204 : decode cL_law 204 = .ok (.iconst 3, 1) := by decide +kernel
theorem dL_law_205 : decode cL_law 205 = .ok (.iadd, 1) := by decide +kernel
theorem dL_law_206 : decode cL_law 206 = .ok (.iaload, 1) := by decide +kernel
theorem dL_law_207 : decode cL_law 207 = .ok (.invokestatic 84, 3) := by decide +kernel
theorem dL_law_210 : decode cL_law 210 = .ok (.istore 5, 2) := by decide +kernel
theorem dL_law_212 : decode cL_law 212 = .ok (.aload_n 2, 1) := by decide +kernel
theorem dL_law_213 : decode cL_law 213 = .ok (.aload_n 0, 1) := by decide +kernel
theorem dL_law_214 : decode cL_law 214 = .ok (.iload 4, 2) := by decide +kernel
theorem dL_law_216 : decode cL_law 216 = .ok (.iconst 1, 1) := by decide +kernel
theorem dL_law_217 : decode cL_law 217 = .ok (.iadd, 1) := by decide +kernel
theorem dL_law_218 : decode cL_law 218 = .ok (.iaload, 1) := by decide +kernel
theorem dL_law_219 : decode cL_law 219 = .ok (.aload_n 0, 1) := by decide +kernel
theorem dL_law_220 : decode cL_law 220 = .ok (.iload 4, 2) := by decide +kernel
theorem dL_law_222 : decode cL_law 222 = .ok (.iconst 2, 1) := by decide +kernel
theorem dL_law_223 : decode cL_law 223 = .ok (.iadd, 1) := by decide +kernel
theorem dL_law_224 : decode cL_law 224 = .ok (.iaload, 1) := by decide +kernel
theorem dL_law_225 : decode cL_law 225 = .ok (.aload_n 0, 1) := by decide +kernel
theorem dL_law_226 : decode cL_law 226 = .ok (.iload 4, 2) := by decide +kernel
theorem dL_law_228 : decode cL_law 228 = .ok (.iconst 3, 1) := by decide +kernel
theorem dL_law_229 : decode cL_law 229 = .ok (.iadd, 1) := by decide +kernel
theorem dL_law_230 : decode cL_law 230 = .ok (.iaload, 1) := by decide +kernel
theorem dL_law_231 : decode cL_law 231 = .ok (.invokevirtual 87, 3) := by decide +kernel
theorem dL_law_234 : decode cL_law 234 = .ok (.aload_n 2, 1) := by decide +kernel
theorem dL_law_235 : decode cL_law 235 = .ok (.invokevirtual 81, 3) := by decide +kernel
theorem dL_law_238 : decode cL_law 238 = .ok (.iload 5, 2) := by decide +kernel
theorem dL_law_240 : decode cL_law 240 = .ok (.if_icmp .eq 5, 3) := by decide +kernel
theorem dL_law_243 : decode cL_law 243 = .ok (.iconst 0, 1) := by decide +kernel
theorem dL_law_244 : decode cL_law 244 = .ok (.ireturn, 1) := by decide +kernel
theorem dL_law_245 : decode cL_law 245 = .ok (.goto 1019, 3) := by decide +kernel
theorem dL_law_248 : decode cL_law 248 = .ok (.aload_n 1, 1) := by decide +kernel
theorem dL_law_249 : decode cL_law 249 = .ok (.aload_n 0, 1) := by decide +kernel
theorem dL_law_250 : decode cL_law 250 = .ok (.iload 4, 2) := by decide +kernel
theorem dL_law_252 : decode cL_law 252 = .ok (.iconst 1, 1) := by decide +kernel
theorem dL_law_253 : decode cL_law 253 = .ok (.iadd, 1) := by decide +kernel
theorem dL_law_254 : decode cL_law 254 = .ok (.iaload, 1) := by decide +kernel
theorem dL_law_255 : decode cL_law 255 = .ok (.aload_n 0, 1) := by decide +kernel
theorem dL_law_256 : decode cL_law 256 = .ok (.iload 4, 2) := by decide +kernel
theorem dL_law_258 : decode cL_law 258 = .ok (.iconst 2, 1) := by decide +kernel
theorem dL_law_259 : decode cL_law 259 = .ok (.iadd, 1) := by decide +kernel
theorem dL_law_260 : decode cL_law 260 = .ok (.iaload, 1) := by decide +kernel
theorem dL_law_261 : decode cL_law 261 = .ok (.aload_n 0, 1) := by decide +kernel
theorem dL_law_262 : decode cL_law 262 = .ok (.iload 4, 2) := by decide +kernel
theorem dL_law_264 : decode cL_law 264 = .ok (.iconst 3, 1) := by decide +kernel
theorem dL_law_265 : decode cL_law 265 = .ok (.iadd, 1) := by decide +kernel
theorem dL_law_266 : decode cL_law 266 = .ok (.iaload, 1) := by decide +kernel
theorem dL_law_267 : decode cL_law 267 = .ok (.aload_n 3, 1) := by decide +kernel
theorem dL_law_268 : decode cL_law 268 = .ok (.invokestatic 88, 3) := by decide +kernel
theorem dL_law_271 : decode cL_law 271 = .ok (.istore 5, 2) := by decide +kernel
theorem dL_law_273 : decode cL_law 273 = .ok (.aload_n 2, 1) := by decide +kernel
theorem dL_law_274 : decode cL_law 274 = .ok (.aload_n 0, 1) := by decide +kernel
theorem dL_law_275 : decode cL_law 275 = .ok (.iload 4, 2) := by decide +kernel
theorem dL_law_277 : decode cL_law 277 = .ok (.iconst 1, 1) := by decide +kernel
theorem dL_law_278 : decode cL_law 278 = .ok (.iadd, 1) := by decide +kernel
theorem dL_law_279 : decode cL_law 279 = .ok (.iaload, 1) := by decide +kernel
theorem dL_law_280 : decode cL_law 280 = .ok (.aload_n 0, 1) := by decide +kernel
theorem dL_law_281 : decode cL_law 281 = .ok (.iload 4, 2) := by decide +kernel
theorem dL_law_283 : decode cL_law 283 = .ok (.iconst 2, 1) := by decide +kernel
theorem dL_law_284 : decode cL_law 284 = .ok (.iadd, 1) := by decide +kernel
theorem dL_law_285 : decode cL_law 285 = .ok (.iaload, 1) := by decide +kernel
theorem dL_law_286 : decode cL_law 286 = .ok (.aload_n 0, 1) := by decide +kernel
theorem dL_law_287 : decode cL_law 287 = .ok (.iload 4, 2) := by decide +kernel
theorem dL_law_289 : decode cL_law 289 = .ok (.iconst 3, 1) := by decide +kernel
theorem dL_law_290 : decode cL_law 290 = .ok (.iadd, 1) := by decide +kernel
theorem dL_law_291 : decode cL_law 291 = .ok (.iaload, 1) := by decide +kernel
theorem dL_law_292 : decode cL_law 292 = .ok (.invokevirtual 91, 3) := by decide +kernel
theorem dL_law_295 : decode cL_law 295 = .ok (.istore 6, 2) := by decide +kernel
theorem dL_law_297 : decode cL_law 297 = .ok (.aload_n 2, 1) := by decide +kernel
theorem dL_law_298 : decode cL_law 298 = .ok (.invokevirtual 81, 3) := by decide +kernel
theorem dL_law_301 : decode cL_law 301 = .ok (.iload 5, 2) := by decide +kernel
theorem dL_law_303 : decode cL_law 303 = .ok (.if_icmp .eq 5, 3) := by decide +kernel
theorem dL_law_306 : decode cL_law 306 = .ok (.iconst 0, 1) := by decide +kernel
theorem dL_law_307 : decode cL_law 307 = .ok (.ireturn, 1) := by decide +kernel
theorem dL_law_308 : decode cL_law 308 = .ok (.iload 5, 2) := by decide +kernel
theorem dL_law_310 : decode cL_law 310 = .ok (.ifCond .ne 15, 3) := by decide +kernel
theorem dL_law_313 : decode cL_law 313 = .ok (.aload_n 3, 1) := by decide +kernel
theorem dL_law_314 : decode cL_law 314 = .ok (.iconst 0, 1) := by decide +kernel
theorem dL_law_315 : decode cL_law 315 = .ok (.laload, 1) := by decide +kernel
theorem dL_law_316 : decode cL_law 316 = .ok (.iload 6, 2) := by decide +kernel
theorem dL_law_318 : decode cL_law 318 = .ok (.i2l, 1) := by decide +kernel
theorem dL_law_319 : decode cL_law 319 = .ok (.lcmp, 1) := by decide +kernel
theorem dL_law_320 : decode cL_law 320 = .ok (.ifCond .eq 5, 3) := by decide +kernel
theorem dL_law_323 : decode cL_law 323 = .ok (.iconst 0, 1) := by decide +kernel
theorem dL_law_324 : decode cL_law 324 = .ok (.ireturn, 1) := by decide +kernel
theorem dL_law_325 : decode cL_law 325 = .ok (.goto 939, 3) := by decide +kernel
theorem dL_law_328 : decode cL_law 328 = .ok (.aload_n 1, 1) := by decide +kernel
theorem dL_law_329 : decode cL_law 329 = .ok (.aload_n 0, 1) := by decide +kernel
theorem dL_law_330 : decode cL_law 330 = .ok (.iload 4, 2) := by decide +kernel
theorem dL_law_332 : decode cL_law 332 = .ok (.iconst 1, 1) := by decide +kernel
theorem dL_law_333 : decode cL_law 333 = .ok (.iadd, 1) := by decide +kernel
theorem dL_law_334 : decode cL_law 334 = .ok (.iaload, 1) := by decide +kernel
theorem dL_law_335 : decode cL_law 335 = .ok (.aload_n 3, 1) := by decide +kernel
theorem dL_law_336 : decode cL_law 336 = .ok (.invokestatic 92, 3) := by decide +kernel
theorem dL_law_339 : decode cL_law 339 = .ok (.istore 5, 2) := by decide +kernel
theorem dL_law_341 : decode cL_law 341 = .ok (.aload_n 2, 1) := by decide +kernel
theorem dL_law_342 : decode cL_law 342 = .ok (.aload_n 0, 1) := by decide +kernel
theorem dL_law_343 : decode cL_law 343 = .ok (.iload 4, 2) := by decide +kernel
theorem dL_law_345 : decode cL_law 345 = .ok (.iconst 1, 1) := by decide +kernel
theorem dL_law_346 : decode cL_law 346 = .ok (.iadd, 1) := by decide +kernel
theorem dL_law_347 : decode cL_law 347 = .ok (.iaload, 1) := by decide +kernel
theorem dL_law_348 : decode cL_law 348 = .ok (.invokevirtual 95, 3) := by decide +kernel
theorem dL_law_351 : decode cL_law 351 = .ok (.istore 6, 2) := by decide +kernel
theorem dL_law_353 : decode cL_law 353 = .ok (.aload_n 2, 1) := by decide +kernel
theorem dL_law_354 : decode cL_law 354 = .ok (.invokevirtual 81, 3) := by decide +kernel
theorem dL_law_357 : decode cL_law 357 = .ok (.iload 5, 2) := by decide +kernel
theorem dL_law_359 : decode cL_law 359 = .ok (.if_icmp .eq 5, 3) := by decide +kernel
theorem dL_law_362 : decode cL_law 362 = .ok (.iconst 0, 1) := by decide +kernel
theorem dL_law_363 : decode cL_law 363 = .ok (.ireturn, 1) := by decide +kernel
theorem dL_law_364 : decode cL_law 364 = .ok (.iload 5, 2) := by decide +kernel
theorem dL_law_366 : decode cL_law 366 = .ok (.ifCond .ne 15, 3) := by decide +kernel
theorem dL_law_369 : decode cL_law 369 = .ok (.aload_n 3, 1) := by decide +kernel
theorem dL_law_370 : decode cL_law 370 = .ok (.iconst 0, 1) := by decide +kernel
theorem dL_law_371 : decode cL_law 371 = .ok (.laload, 1) := by decide +kernel
theorem dL_law_372 : decode cL_law 372 = .ok (.iload 6, 2) := by decide +kernel
theorem dL_law_374 : decode cL_law 374 = .ok (.i2l, 1) := by decide +kernel
theorem dL_law_375 : decode cL_law 375 = .ok (.lcmp, 1) := by decide +kernel
theorem dL_law_376 : decode cL_law 376 = .ok (.ifCond .eq 5, 3) := by decide +kernel
theorem dL_law_379 : decode cL_law 379 = .ok (.iconst 0, 1) := by decide +kernel
theorem dL_law_380 : decode cL_law 380 = .ok (.ireturn, 1) := by decide +kernel
theorem dL_law_381 : decode cL_law 381 = .ok (.goto 883, 3) := by decide +kernel
theorem dL_law_384 : decode cL_law 384 = .ok (.aload_n 1, 1) := by decide +kernel
theorem dL_law_385 : decode cL_law 385 = .ok (.aload_n 0, 1) := by decide +kernel
theorem dL_law_386 : decode cL_law 386 = .ok (.iload 4, 2) := by decide +kernel
theorem dL_law_388 : decode cL_law 388 = .ok (.iconst 1, 1) := by decide +kernel
theorem dL_law_389 : decode cL_law 389 = .ok (.iadd, 1) := by decide +kernel
theorem dL_law_390 : decode cL_law 390 = .ok (.iaload, 1) := by decide +kernel
theorem dL_law_391 : decode cL_law 391 = .ok (.aload_n 0, 1) := by decide +kernel
theorem dL_law_392 : decode cL_law 392 = .ok (.iload 4, 2) := by decide +kernel
theorem dL_law_394 : decode cL_law 394 = .ok (.iconst 2, 1) := by decide +kernel
theorem dL_law_395 : decode cL_law 395 = .ok (.iadd, 1) := by decide +kernel
theorem dL_law_396 : decode cL_law 396 = .ok (.iaload, 1) := by decide +kernel
theorem dL_law_397 : decode cL_law 397 = .ok (.ifCond .eq 7, 3) := by decide +kernel
theorem dL_law_400 : decode cL_law 400 = .ok (.iconst 1, 1) := by decide +kernel
theorem dL_law_401 : decode cL_law 401 = .ok (.goto 4, 3) := by decide +kernel
theorem dL_law_404 : decode cL_law 404 = .ok (.iconst 0, 1) := by decide +kernel
theorem dL_law_405 : decode cL_law 405 = .ok (.aload_n 3, 1) := by decide +kernel
theorem dL_law_406 : decode cL_law 406 = .ok (.invokestatic 96, 3) := by decide +kernel
theorem dL_law_409 : decode cL_law 409 = .ok (.istore 5, 2) := by decide +kernel
theorem dL_law_411 : decode cL_law 411 = .ok (.aload_n 2, 1) := by decide +kernel
theorem dL_law_412 : decode cL_law 412 = .ok (.aload_n 0, 1) := by decide +kernel
theorem dL_law_413 : decode cL_law 413 = .ok (.iload 4, 2) := by decide +kernel
theorem dL_law_415 : decode cL_law 415 = .ok (.iconst 1, 1) := by decide +kernel
theorem dL_law_416 : decode cL_law 416 = .ok (.iadd, 1) := by decide +kernel
theorem dL_law_417 : decode cL_law 417 = .ok (.iaload, 1) := by decide +kernel
theorem dL_law_418 : decode cL_law 418 = .ok (.aload_n 0, 1) := by decide +kernel
theorem dL_law_419 : decode cL_law 419 = .ok (.iload 4, 2) := by decide +kernel
theorem dL_law_421 : decode cL_law 421 = .ok (.iconst 2, 1) := by decide +kernel
theorem dL_law_422 : decode cL_law 422 = .ok (.iadd, 1) := by decide +kernel
theorem dL_law_423 : decode cL_law 423 = .ok (.iaload, 1) := by decide +kernel
theorem dL_law_424 : decode cL_law 424 = .ok (.ifCond .eq 7, 3) := by decide +kernel
theorem dL_law_427 : decode cL_law 427 = .ok (.iconst 1, 1) := by decide +kernel
theorem dL_law_428 : decode cL_law 428 = .ok (.goto 4, 3) := by decide +kernel
theorem dL_law_431 : decode cL_law 431 = .ok (.iconst 0, 1) := by decide +kernel
theorem dL_law_432 : decode cL_law 432 = .ok (.invokevirtual 99, 3) := by decide +kernel
theorem dL_law_435 : decode cL_law 435 = .ok (.istore 6, 2) := by decide +kernel
theorem dL_law_437 : decode cL_law 437 = .ok (.aload_n 2, 1) := by decide +kernel
theorem dL_law_438 : decode cL_law 438 = .ok (.invokevirtual 81, 3) := by decide +kernel
theorem dL_law_441 : decode cL_law 441 = .ok (.iload 5, 2) := by decide +kernel
theorem dL_law_443 : decode cL_law 443 = .ok (.if_icmp .eq 5, 3) := by decide +kernel
theorem dL_law_446 : decode cL_law 446 = .ok (.iconst 0, 1) := by decide +kernel
theorem dL_law_447 : decode cL_law 447 = .ok (.ireturn, 1) := by decide +kernel
theorem dL_law_448 : decode cL_law 448 = .ok (.iload 5, 2) := by decide +kernel
theorem dL_law_450 : decode cL_law 450 = .ok (.ifCond .ne 22, 3) := by decide +kernel
theorem dL_law_453 : decode cL_law 453 = .ok (.aload_n 3, 1) := by decide +kernel
theorem dL_law_454 : decode cL_law 454 = .ok (.iconst 0, 1) := by decide +kernel
theorem dL_law_455 : decode cL_law 455 = .ok (.laload, 1) := by decide +kernel
theorem dL_law_456 : decode cL_law 456 = .ok (.iload 6, 2) := by decide +kernel
theorem dL_law_458 : decode cL_law 458 = .ok (.ifCond .eq 7, 3) := by decide +kernel
theorem dL_law_461 : decode cL_law 461 = .ok (.lconst 1, 1) := by decide +kernel
theorem dL_law_462 : decode cL_law 462 = .ok (.goto 4, 3) := by decide +kernel
theorem dL_law_465 : decode cL_law 465 = .ok (.lconst 0, 1) := by decide +kernel
theorem dL_law_466 : decode cL_law 466 = .ok (.lcmp, 1) := by decide +kernel
theorem dL_law_467 : decode cL_law 467 = .ok (.ifCond .eq 5, 3) := by decide +kernel
theorem dL_law_470 : decode cL_law 470 = .ok (.iconst 0, 1) := by decide +kernel
theorem dL_law_471 : decode cL_law 471 = .ok (.ireturn, 1) := by decide +kernel
theorem dL_law_472 : decode cL_law 472 = .ok (.goto 792, 3) := by decide +kernel
theorem dL_law_475 : decode cL_law 475 = .ok (.aload_n 1, 1) := by decide +kernel
theorem dL_law_476 : decode cL_law 476 = .ok (.aload_n 0, 1) := by decide +kernel
theorem dL_law_477 : decode cL_law 477 = .ok (.iload 4, 2) := by decide +kernel
theorem dL_law_479 : decode cL_law 479 = .ok (.iconst 1, 1) := by decide +kernel
theorem dL_law_480 : decode cL_law 480 = .ok (.iadd, 1) := by decide +kernel
theorem dL_law_481 : decode cL_law 481 = .ok (.iaload, 1) := by decide +kernel
theorem dL_law_482 : decode cL_law 482 = .ok (.aload_n 0, 1) := by decide +kernel
theorem dL_law_483 : decode cL_law 483 = .ok (.iload 4, 2) := by decide +kernel
theorem dL_law_485 : decode cL_law 485 = .ok (.iconst 2, 1) := by decide +kernel
theorem dL_law_486 : decode cL_law 486 = .ok (.iadd, 1) := by decide +kernel
theorem dL_law_487 : decode cL_law 487 = .ok (.iaload, 1) := by decide +kernel
theorem dL_law_488 : decode cL_law 488 = .ok (.aload_n 0, 1) := by decide +kernel
theorem dL_law_489 : decode cL_law 489 = .ok (.iload 4, 2) := by decide +kernel
theorem dL_law_491 : decode cL_law 491 = .ok (.iconst 3, 1) := by decide +kernel
theorem dL_law_492 : decode cL_law 492 = .ok (.iadd, 1) := by decide +kernel
theorem dL_law_493 : decode cL_law 493 = .ok (.iaload, 1) := by decide +kernel
theorem dL_law_494 : decode cL_law 494 = .ok (.aload_n 0, 1) := by decide +kernel
theorem dL_law_495 : decode cL_law 495 = .ok (.iload 4, 2) := by decide +kernel
theorem dL_law_497 : decode cL_law 497 = .ok (.iconst 4, 1) := by decide +kernel
theorem dL_law_498 : decode cL_law 498 = .ok (.iadd, 1) := by decide +kernel
theorem dL_law_499 : decode cL_law 499 = .ok (.iaload, 1) := by decide +kernel
theorem dL_law_500 : decode cL_law 500 = .ok (.ifCond .eq 7, 3) := by decide +kernel
theorem dL_law_503 : decode cL_law 503 = .ok (.iconst 1, 1) := by decide +kernel
theorem dL_law_504 : decode cL_law 504 = .ok (.goto 4, 3) := by decide +kernel
theorem dL_law_507 : decode cL_law 507 = .ok (.iconst 0, 1) := by decide +kernel
theorem dL_law_508 : decode cL_law 508 = .ok (.aload_n 3, 1) := by decide +kernel
theorem dL_law_509 : decode cL_law 509 = .ok (.invokestatic 100, 3) := by decide +kernel
theorem dL_law_512 : decode cL_law 512 = .ok (.istore 5, 2) := by decide +kernel
theorem dL_law_514 : decode cL_law 514 = .ok (.aload_n 2, 1) := by decide +kernel
theorem dL_law_515 : decode cL_law 515 = .ok (.aload_n 0, 1) := by decide +kernel
theorem dL_law_516 : decode cL_law 516 = .ok (.iload 4, 2) := by decide +kernel
theorem dL_law_518 : decode cL_law 518 = .ok (.iconst 1, 1) := by decide +kernel
theorem dL_law_519 : decode cL_law 519 = .ok (.iadd, 1) := by decide +kernel
theorem dL_law_520 : decode cL_law 520 = .ok (.iaload, 1) := by decide +kernel
theorem dL_law_521 : decode cL_law 521 = .ok (.aload_n 0, 1) := by decide +kernel
theorem dL_law_522 : decode cL_law 522 = .ok (.iload 4, 2) := by decide +kernel
theorem dL_law_524 : decode cL_law 524 = .ok (.iconst 2, 1) := by decide +kernel
theorem dL_law_525 : decode cL_law 525 = .ok (.iadd, 1) := by decide +kernel
theorem dL_law_526 : decode cL_law 526 = .ok (.iaload, 1) := by decide +kernel
theorem dL_law_527 : decode cL_law 527 = .ok (.aload_n 0, 1) := by decide +kernel
theorem dL_law_528 : decode cL_law 528 = .ok (.iload 4, 2) := by decide +kernel
theorem dL_law_530 : decode cL_law 530 = .ok (.iconst 3, 1) := by decide +kernel
theorem dL_law_531 : decode cL_law 531 = .ok (.iadd, 1) := by decide +kernel
theorem dL_law_532 : decode cL_law 532 = .ok (.iaload, 1) := by decide +kernel
theorem dL_law_533 : decode cL_law 533 = .ok (.aload_n 0, 1) := by decide +kernel
theorem dL_law_534 : decode cL_law 534 = .ok (.iload 4, 2) := by decide +kernel
theorem dL_law_536 : decode cL_law 536 = .ok (.iconst 4, 1) := by decide +kernel
theorem dL_law_537 : decode cL_law 537 = .ok (.iadd, 1) := by decide +kernel
theorem dL_law_538 : decode cL_law 538 = .ok (.iaload, 1) := by decide +kernel
theorem dL_law_539 : decode cL_law 539 = .ok (.ifCond .eq 7, 3) := by decide +kernel
theorem dL_law_542 : decode cL_law 542 = .ok (.iconst 1, 1) := by decide +kernel
theorem dL_law_543 : decode cL_law 543 = .ok (.goto 4, 3) := by decide +kernel
theorem dL_law_546 : decode cL_law 546 = .ok (.iconst 0, 1) := by decide +kernel
theorem dL_law_547 : decode cL_law 547 = .ok (.invokevirtual 103, 3) := by decide +kernel
theorem dL_law_550 : decode cL_law 550 = .ok (.istore 6, 2) := by decide +kernel
theorem dL_law_552 : decode cL_law 552 = .ok (.aload_n 2, 1) := by decide +kernel
theorem dL_law_553 : decode cL_law 553 = .ok (.invokevirtual 81, 3) := by decide +kernel
theorem dL_law_556 : decode cL_law 556 = .ok (.iload 5, 2) := by decide +kernel
theorem dL_law_558 : decode cL_law 558 = .ok (.if_icmp .eq 5, 3) := by decide +kernel
theorem dL_law_561 : decode cL_law 561 = .ok (.iconst 0, 1) := by decide +kernel
theorem dL_law_562 : decode cL_law 562 = .ok (.ireturn, 1) := by decide +kernel
theorem dL_law_563 : decode cL_law 563 = .ok (.iload 5, 2) := by decide +kernel
theorem dL_law_565 : decode cL_law 565 = .ok (.ifCond .ne 15, 3) := by decide +kernel
theorem dL_law_568 : decode cL_law 568 = .ok (.aload_n 3, 1) := by decide +kernel
theorem dL_law_569 : decode cL_law 569 = .ok (.iconst 0, 1) := by decide +kernel
theorem dL_law_570 : decode cL_law 570 = .ok (.laload, 1) := by decide +kernel
theorem dL_law_571 : decode cL_law 571 = .ok (.iload 6, 2) := by decide +kernel
theorem dL_law_573 : decode cL_law 573 = .ok (.i2l, 1) := by decide +kernel
theorem dL_law_574 : decode cL_law 574 = .ok (.lcmp, 1) := by decide +kernel
theorem dL_law_575 : decode cL_law 575 = .ok (.ifCond .eq 5, 3) := by decide +kernel
theorem dL_law_578 : decode cL_law 578 = .ok (.iconst 0, 1) := by decide +kernel
theorem dL_law_579 : decode cL_law 579 = .ok (.ireturn, 1) := by decide +kernel
theorem dL_law_580 : decode cL_law 580 = .ok (.goto 684, 3) := by decide +kernel
theorem dL_law_583 : decode cL_law 583 = .ok (.aload_n 1, 1) := by decide +kernel
theorem dL_law_584 : decode cL_law 584 = .ok (.aload_n 0, 1) := by decide +kernel
theorem dL_law_585 : decode cL_law 585 = .ok (.iload 4, 2) := by decide +kernel
theorem dL_law_587 : decode cL_law 587 = .ok (.iconst 1, 1) := by decide +kernel
theorem dL_law_588 : decode cL_law 588 = .ok (.iadd, 1) := by decide +kernel
theorem dL_law_589 : decode cL_law 589 = .ok (.iaload, 1) := by decide +kernel
theorem dL_law_590 : decode cL_law 590 = .ok (.aload_n 0, 1) := by decide +kernel
theorem dL_law_591 : decode cL_law 591 = .ok (.iload 4, 2) := by decide +kernel
theorem dL_law_593 : decode cL_law 593 = .ok (.iconst 2, 1) := by decide +kernel
theorem dL_law_594 : decode cL_law 594 = .ok (.iadd, 1) := by decide +kernel
theorem dL_law_595 : decode cL_law 595 = .ok (.iaload, 1) := by decide +kernel
theorem dL_law_596 : decode cL_law 596 = .ok (.aload_n 0, 1) := by decide +kernel
theorem dL_law_597 : decode cL_law 597 = .ok (.iload 4, 2) := by decide +kernel
theorem dL_law_599 : decode cL_law 599 = .ok (.iconst 3, 1) := by decide +kernel
theorem dL_law_600 : decode cL_law 600 = .ok (.iadd, 1) := by decide +kernel
theorem dL_law_601 : decode cL_law 601 = .ok (.iaload, 1) := by decide +kernel
theorem dL_law_602 : decode cL_law 602 = .ok (.aload_n 0, 1) := by decide +kernel
theorem dL_law_603 : decode cL_law 603 = .ok (.iload 4, 2) := by decide +kernel
theorem dL_law_605 : decode cL_law 605 = .ok (.iconst 4, 1) := by decide +kernel
theorem dL_law_606 : decode cL_law 606 = .ok (.iadd, 1) := by decide +kernel
theorem dL_law_607 : decode cL_law 607 = .ok (.iaload, 1) := by decide +kernel
theorem dL_law_608 : decode cL_law 608 = .ok (.aload_n 3, 1) := by decide +kernel
theorem dL_law_609 : decode cL_law 609 = .ok (.invokestatic 104, 3) := by decide +kernel
theorem dL_law_612 : decode cL_law 612 = .ok (.istore 5, 2) := by decide +kernel
theorem dL_law_614 : decode cL_law 614 = .ok (.aload_n 2, 1) := by decide +kernel
theorem dL_law_615 : decode cL_law 615 = .ok (.aload_n 0, 1) := by decide +kernel
theorem dL_law_616 : decode cL_law 616 = .ok (.iload 4, 2) := by decide +kernel
theorem dL_law_618 : decode cL_law 618 = .ok (.iconst 1, 1) := by decide +kernel
theorem dL_law_619 : decode cL_law 619 = .ok (.iadd, 1) := by decide +kernel
theorem dL_law_620 : decode cL_law 620 = .ok (.iaload, 1) := by decide +kernel
theorem dL_law_621 : decode cL_law 621 = .ok (.aload_n 0, 1) := by decide +kernel
theorem dL_law_622 : decode cL_law 622 = .ok (.iload 4, 2) := by decide +kernel
theorem dL_law_624 : decode cL_law 624 = .ok (.iconst 2, 1) := by decide +kernel
theorem dL_law_625 : decode cL_law 625 = .ok (.iadd, 1) := by decide +kernel
theorem dL_law_626 : decode cL_law 626 = .ok (.iaload, 1) := by decide +kernel
theorem dL_law_627 : decode cL_law 627 = .ok (.aload_n 0, 1) := by decide +kernel
theorem dL_law_628 : decode cL_law 628 = .ok (.iload 4, 2) := by decide +kernel
theorem dL_law_630 : decode cL_law 630 = .ok (.iconst 3, 1) := by decide +kernel
theorem dL_law_631 : decode cL_law 631 = .ok (.iadd, 1) := by decide +kernel
theorem dL_law_632 : decode cL_law 632 = .ok (.iaload, 1) := by decide +kernel
theorem dL_law_633 : decode cL_law 633 = .ok (.aload_n 0, 1) := by decide +kernel
theorem dL_law_634 : decode cL_law 634 = .ok (.iload 4, 2) := by decide +kernel
theorem dL_law_636 : decode cL_law 636 = .ok (.iconst 4, 1) := by decide +kernel
theorem dL_law_637 : decode cL_law 637 = .ok (.iadd, 1) := by decide +kernel
theorem dL_law_638 : decode cL_law 638 = .ok (.iaload, 1) := by decide +kernel
theorem dL_law_639 : decode cL_law 639 = .ok (.invokevirtual 107, 3) := by decide +kernel
theorem dL_law_642 : decode cL_law 642 = .ok (.istore 6, 2) := by decide +kernel
theorem dL_law_644 : decode cL_law 644 = .ok (.aload_n 2, 1) := by decide +kernel
theorem dL_law_645 : decode cL_law 645 = .ok (.invokevirtual 81, 3) := by decide +kernel
theorem dL_law_648 : decode cL_law 648 = .ok (.iload 5, 2) := by decide +kernel
theorem dL_law_650 : decode cL_law 650 = .ok (.if_icmp .eq 5, 3) := by decide +kernel
theorem dL_law_653 : decode cL_law 653 = .ok (.iconst 0, 1) := by decide +kernel
theorem dL_law_654 : decode cL_law 654 = .ok (.ireturn, 1) := by decide +kernel
theorem dL_law_655 : decode cL_law 655 = .ok (.iload 5, 2) := by decide +kernel
theorem dL_law_657 : decode cL_law 657 = .ok (.ifCond .ne 15, 3) := by decide +kernel
theorem dL_law_660 : decode cL_law 660 = .ok (.aload_n 3, 1) := by decide +kernel
theorem dL_law_661 : decode cL_law 661 = .ok (.iconst 0, 1) := by decide +kernel
theorem dL_law_662 : decode cL_law 662 = .ok (.laload, 1) := by decide +kernel
theorem dL_law_663 : decode cL_law 663 = .ok (.iload 6, 2) := by decide +kernel
theorem dL_law_665 : decode cL_law 665 = .ok (.i2l, 1) := by decide +kernel
theorem dL_law_666 : decode cL_law 666 = .ok (.lcmp, 1) := by decide +kernel
theorem dL_law_667 : decode cL_law 667 = .ok (.ifCond .eq 5, 3) := by decide +kernel
theorem dL_law_670 : decode cL_law 670 = .ok (.iconst 0, 1) := by decide +kernel
theorem dL_law_671 : decode cL_law 671 = .ok (.ireturn, 1) := by decide +kernel
theorem dL_law_672 : decode cL_law 672 = .ok (.goto 592, 3) := by decide +kernel
theorem dL_law_675 : decode cL_law 675 = .ok (.aload_n 1, 1) := by decide +kernel
theorem dL_law_676 : decode cL_law 676 = .ok (.aload_n 3, 1) := by decide +kernel
theorem dL_law_677 : decode cL_law 677 = .ok (.invokestatic 108, 3) := by decide +kernel
theorem dL_law_680 : decode cL_law 680 = .ok (.istore 5, 2) := by decide +kernel
theorem dL_law_682 : decode cL_law 682 = .ok (.aload_n 2, 1) := by decide +kernel
theorem dL_law_683 : decode cL_law 683 = .ok (.invokevirtual 111, 3) := by decide +kernel
theorem dL_law_686 : decode cL_law 686 = .ok (.istore 6, 2) := by decide +kernel
theorem dL_law_688 : decode cL_law 688 = .ok (.aload_n 2, 1) := by decide +kernel
theorem dL_law_689 : decode cL_law 689 = .ok (.invokevirtual 81, 3) := by decide +kernel
theorem dL_law_692 : decode cL_law 692 = .ok (.iload 5, 2) := by decide +kernel
theorem dL_law_694 : decode cL_law 694 = .ok (.if_icmp .eq 5, 3) := by decide +kernel
theorem dL_law_697 : decode cL_law 697 = .ok (.iconst 0, 1) := by decide +kernel
theorem dL_law_698 : decode cL_law 698 = .ok (.ireturn, 1) := by decide +kernel
theorem dL_law_699 : decode cL_law 699 = .ok (.iload 5, 2) := by decide +kernel
theorem dL_law_701 : decode cL_law 701 = .ok (.ifCond .ne 15, 3) := by decide +kernel
theorem dL_law_704 : decode cL_law 704 = .ok (.aload_n 3, 1) := by decide +kernel
theorem dL_law_705 : decode cL_law 705 = .ok (.iconst 0, 1) := by decide +kernel
theorem dL_law_706 : decode cL_law 706 = .ok (.laload, 1) := by decide +kernel
theorem dL_law_707 : decode cL_law 707 = .ok (.iload 6, 2) := by decide +kernel
theorem dL_law_709 : decode cL_law 709 = .ok (.i2l, 1) := by decide +kernel
theorem dL_law_710 : decode cL_law 710 = .ok (.lcmp, 1) := by decide +kernel
theorem dL_law_711 : decode cL_law 711 = .ok (.ifCond .eq 5, 3) := by decide +kernel
theorem dL_law_714 : decode cL_law 714 = .ok (.iconst 0, 1) := by decide +kernel
theorem dL_law_715 : decode cL_law 715 = .ok (.ireturn, 1) := by decide +kernel
theorem dL_law_716 : decode cL_law 716 = .ok (.goto 548, 3) := by decide +kernel
theorem dL_law_719 : decode cL_law 719 = .ok (.aload_n 1, 1) := by decide +kernel
theorem dL_law_720 : decode cL_law 720 = .ok (.aload_n 0, 1) := by decide +kernel
theorem dL_law_721 : decode cL_law 721 = .ok (.iload 4, 2) := by decide +kernel
theorem dL_law_723 : decode cL_law 723 = .ok (.iconst 1, 1) := by decide +kernel
theorem dL_law_724 : decode cL_law 724 = .ok (.iadd, 1) := by decide +kernel
theorem dL_law_725 : decode cL_law 725 = .ok (.iaload, 1) := by decide +kernel
theorem dL_law_726 : decode cL_law 726 = .ok (.aload_n 0, 1) := by decide +kernel
theorem dL_law_727 : decode cL_law 727 = .ok (.iload 4, 2) := by decide +kernel
theorem dL_law_729 : decode cL_law 729 = .ok (.iconst 2, 1) := by decide +kernel
theorem dL_law_730 : decode cL_law 730 = .ok (.iadd, 1) := by decide +kernel
theorem dL_law_731 : decode cL_law 731 = .ok (.iaload, 1) := by decide +kernel
theorem dL_law_732 : decode cL_law 732 = .ok (.aload_n 3, 1) := by decide +kernel
theorem dL_law_733 : decode cL_law 733 = .ok (.invokestatic 112, 3) := by decide +kernel
theorem dL_law_736 : decode cL_law 736 = .ok (.istore 5, 2) := by decide +kernel
theorem dL_law_738 : decode cL_law 738 = .ok (.aload_n 2, 1) := by decide +kernel
theorem dL_law_739 : decode cL_law 739 = .ok (.aload_n 0, 1) := by decide +kernel
theorem dL_law_740 : decode cL_law 740 = .ok (.iload 4, 2) := by decide +kernel
theorem dL_law_742 : decode cL_law 742 = .ok (.iconst 1, 1) := by decide +kernel
theorem dL_law_743 : decode cL_law 743 = .ok (.iadd, 1) := by decide +kernel
theorem dL_law_744 : decode cL_law 744 = .ok (.iaload, 1) := by decide +kernel
theorem dL_law_745 : decode cL_law 745 = .ok (.aload_n 0, 1) := by decide +kernel
theorem dL_law_746 : decode cL_law 746 = .ok (.iload 4, 2) := by decide +kernel
theorem dL_law_748 : decode cL_law 748 = .ok (.iconst 2, 1) := by decide +kernel
theorem dL_law_749 : decode cL_law 749 = .ok (.iadd, 1) := by decide +kernel
theorem dL_law_750 : decode cL_law 750 = .ok (.iaload, 1) := by decide +kernel
theorem dL_law_751 : decode cL_law 751 = .ok (.invokevirtual 114, 3) := by decide +kernel
theorem dL_law_754 : decode cL_law 754 = .ok (.istore 6, 2) := by decide +kernel
theorem dL_law_756 : decode cL_law 756 = .ok (.aload_n 2, 1) := by decide +kernel
theorem dL_law_757 : decode cL_law 757 = .ok (.invokevirtual 81, 3) := by decide +kernel
theorem dL_law_760 : decode cL_law 760 = .ok (.iload 5, 2) := by decide +kernel
theorem dL_law_762 : decode cL_law 762 = .ok (.if_icmp .eq 5, 3) := by decide +kernel
theorem dL_law_765 : decode cL_law 765 = .ok (.iconst 0, 1) := by decide +kernel
theorem dL_law_766 : decode cL_law 766 = .ok (.ireturn, 1) := by decide +kernel
theorem dL_law_767 : decode cL_law 767 = .ok (.iload 5, 2) := by decide +kernel
theorem dL_law_769 : decode cL_law 769 = .ok (.ifCond .ne 15, 3) := by decide +kernel
theorem dL_law_772 : decode cL_law 772 = .ok (.aload_n 3, 1) := by decide +kernel
theorem dL_law_773 : decode cL_law 773 = .ok (.iconst 0, 1) := by decide +kernel
theorem dL_law_774 : decode cL_law 774 = .ok (.laload, 1) := by decide +kernel
theorem dL_law_775 : decode cL_law 775 = .ok (.iload 6, 2) := by decide +kernel
theorem dL_law_777 : decode cL_law 777 = .ok (.i2l, 1) := by decide +kernel
theorem dL_law_778 : decode cL_law 778 = .ok (.lcmp, 1) := by decide +kernel
theorem dL_law_779 : decode cL_law 779 = .ok (.ifCond .eq 5, 3) := by decide +kernel
theorem dL_law_782 : decode cL_law 782 = .ok (.iconst 0, 1) := by decide +kernel
theorem dL_law_783 : decode cL_law 783 = .ok (.ireturn, 1) := by decide +kernel
theorem dL_law_784 : decode cL_law 784 = .ok (.goto 480, 3) := by decide +kernel
theorem dL_law_787 : decode cL_law 787 = .ok (.aload_n 1, 1) := by decide +kernel
theorem dL_law_788 : decode cL_law 788 = .ok (.aload_n 0, 1) := by decide +kernel
theorem dL_law_789 : decode cL_law 789 = .ok (.iload 4, 2) := by decide +kernel
theorem dL_law_791 : decode cL_law 791 = .ok (.iconst 1, 1) := by decide +kernel
theorem dL_law_792 : decode cL_law 792 = .ok (.iadd, 1) := by decide +kernel
theorem dL_law_793 : decode cL_law 793 = .ok (.iaload, 1) := by decide +kernel
theorem dL_law_794 : decode cL_law 794 = .ok (.aload_n 3, 1) := by decide +kernel
theorem dL_law_795 : decode cL_law 795 = .ok (.invokestatic 115, 3) := by decide +kernel
theorem dL_law_798 : decode cL_law 798 = .ok (.istore 5, 2) := by decide +kernel
theorem dL_law_800 : decode cL_law 800 = .ok (.aload_n 2, 1) := by decide +kernel
theorem dL_law_801 : decode cL_law 801 = .ok (.aload_n 0, 1) := by decide +kernel
theorem dL_law_802 : decode cL_law 802 = .ok (.iload 4, 2) := by decide +kernel
theorem dL_law_804 : decode cL_law 804 = .ok (.iconst 1, 1) := by decide +kernel
theorem dL_law_805 : decode cL_law 805 = .ok (.iadd, 1) := by decide +kernel
theorem dL_law_806 : decode cL_law 806 = .ok (.iaload, 1) := by decide +kernel
theorem dL_law_807 : decode cL_law 807 = .ok (.invokevirtual 117, 3) := by decide +kernel
theorem dL_law_810 : decode cL_law 810 = .ok (.istore 6, 2) := by decide +kernel
theorem dL_law_812 : decode cL_law 812 = .ok (.aload_n 2, 1) := by decide +kernel
theorem dL_law_813 : decode cL_law 813 = .ok (.invokevirtual 81, 3) := by decide +kernel
theorem dL_law_816 : decode cL_law 816 = .ok (.iload 5, 2) := by decide +kernel
theorem dL_law_818 : decode cL_law 818 = .ok (.if_icmp .eq 5, 3) := by decide +kernel
theorem dL_law_821 : decode cL_law 821 = .ok (.iconst 0, 1) := by decide +kernel
theorem dL_law_822 : decode cL_law 822 = .ok (.ireturn, 1) := by decide +kernel
theorem dL_law_823 : decode cL_law 823 = .ok (.iload 5, 2) := by decide +kernel
theorem dL_law_825 : decode cL_law 825 = .ok (.ifCond .ne 15, 3) := by decide +kernel
theorem dL_law_828 : decode cL_law 828 = .ok (.aload_n 3, 1) := by decide +kernel
theorem dL_law_829 : decode cL_law 829 = .ok (.iconst 0, 1) := by decide +kernel
theorem dL_law_830 : decode cL_law 830 = .ok (.laload, 1) := by decide +kernel
theorem dL_law_831 : decode cL_law 831 = .ok (.iload 6, 2) := by decide +kernel
theorem dL_law_833 : decode cL_law 833 = .ok (.i2l, 1) := by decide +kernel
theorem dL_law_834 : decode cL_law 834 = .ok (.lcmp, 1) := by decide +kernel
theorem dL_law_835 : decode cL_law 835 = .ok (.ifCond .eq 5, 3) := by decide +kernel
theorem dL_law_838 : decode cL_law 838 = .ok (.iconst 0, 1) := by decide +kernel
theorem dL_law_839 : decode cL_law 839 = .ok (.ireturn, 1) := by decide +kernel
theorem dL_law_840 : decode cL_law 840 = .ok (.goto 424, 3) := by decide +kernel
theorem dL_law_843 : decode cL_law 843 = .ok (.aload_n 1, 1) := by decide +kernel
theorem dL_law_844 : decode cL_law 844 = .ok (.aload_n 0, 1) := by decide +kernel
theorem dL_law_845 : decode cL_law 845 = .ok (.iload 4, 2) := by decide +kernel
theorem dL_law_847 : decode cL_law 847 = .ok (.iconst 1, 1) := by decide +kernel
theorem dL_law_848 : decode cL_law 848 = .ok (.iadd, 1) := by decide +kernel
theorem dL_law_849 : decode cL_law 849 = .ok (.iaload, 1) := by decide +kernel
theorem dL_law_850 : decode cL_law 850 = .ok (.aload_n 3, 1) := by decide +kernel
theorem dL_law_851 : decode cL_law 851 = .ok (.invokestatic 118, 3) := by decide +kernel
theorem dL_law_854 : decode cL_law 854 = .ok (.istore 5, 2) := by decide +kernel
theorem dL_law_856 : decode cL_law 856 = .ok (.aload_n 2, 1) := by decide +kernel
theorem dL_law_857 : decode cL_law 857 = .ok (.aload_n 0, 1) := by decide +kernel
theorem dL_law_858 : decode cL_law 858 = .ok (.iload 4, 2) := by decide +kernel
theorem dL_law_860 : decode cL_law 860 = .ok (.iconst 1, 1) := by decide +kernel
theorem dL_law_861 : decode cL_law 861 = .ok (.iadd, 1) := by decide +kernel
theorem dL_law_862 : decode cL_law 862 = .ok (.iaload, 1) := by decide +kernel
theorem dL_law_863 : decode cL_law 863 = .ok (.invokevirtual 120, 3) := by decide +kernel
theorem dL_law_866 : decode cL_law 866 = .ok (.istore 6, 2) := by decide +kernel
theorem dL_law_868 : decode cL_law 868 = .ok (.aload_n 2, 1) := by decide +kernel
theorem dL_law_869 : decode cL_law 869 = .ok (.invokevirtual 81, 3) := by decide +kernel
theorem dL_law_872 : decode cL_law 872 = .ok (.iload 5, 2) := by decide +kernel
theorem dL_law_874 : decode cL_law 874 = .ok (.if_icmp .eq 5, 3) := by decide +kernel
theorem dL_law_877 : decode cL_law 877 = .ok (.iconst 0, 1) := by decide +kernel
theorem dL_law_878 : decode cL_law 878 = .ok (.ireturn, 1) := by decide +kernel
theorem dL_law_879 : decode cL_law 879 = .ok (.iload 5, 2) := by decide +kernel
theorem dL_law_881 : decode cL_law 881 = .ok (.ifCond .ne 15, 3) := by decide +kernel
theorem dL_law_884 : decode cL_law 884 = .ok (.aload_n 3, 1) := by decide +kernel
theorem dL_law_885 : decode cL_law 885 = .ok (.iconst 0, 1) := by decide +kernel
theorem dL_law_886 : decode cL_law 886 = .ok (.laload, 1) := by decide +kernel
theorem dL_law_887 : decode cL_law 887 = .ok (.iload 6, 2) := by decide +kernel
theorem dL_law_889 : decode cL_law 889 = .ok (.i2l, 1) := by decide +kernel
theorem dL_law_890 : decode cL_law 890 = .ok (.lcmp, 1) := by decide +kernel
theorem dL_law_891 : decode cL_law 891 = .ok (.ifCond .eq 5, 3) := by decide +kernel
theorem dL_law_894 : decode cL_law 894 = .ok (.iconst 0, 1) := by decide +kernel
theorem dL_law_895 : decode cL_law 895 = .ok (.ireturn, 1) := by decide +kernel
theorem dL_law_896 : decode cL_law 896 = .ok (.goto 368, 3) := by decide +kernel
theorem dL_law_899 : decode cL_law 899 = .ok (.aload_n 1, 1) := by decide +kernel
theorem dL_law_900 : decode cL_law 900 = .ok (.aload_n 0, 1) := by decide +kernel
theorem dL_law_901 : decode cL_law 901 = .ok (.iload 4, 2) := by decide +kernel
theorem dL_law_903 : decode cL_law 903 = .ok (.iconst 1, 1) := by decide +kernel
theorem dL_law_904 : decode cL_law 904 = .ok (.iadd, 1) := by decide +kernel
theorem dL_law_905 : decode cL_law 905 = .ok (.iaload, 1) := by decide +kernel
theorem dL_law_906 : decode cL_law 906 = .ok (.aload_n 0, 1) := by decide +kernel
theorem dL_law_907 : decode cL_law 907 = .ok (.iload 4, 2) := by decide +kernel
theorem dL_law_909 : decode cL_law 909 = .ok (.iconst 2, 1) := by decide +kernel
theorem dL_law_910 : decode cL_law 910 = .ok (.iadd, 1) := by decide +kernel
theorem dL_law_911 : decode cL_law 911 = .ok (.iaload, 1) := by decide +kernel
theorem dL_law_912 : decode cL_law 912 = .ok (.aload_n 3, 1) := by decide +kernel
theorem dL_law_913 : decode cL_law 913 = .ok (.invokestatic 121, 3) := by decide +kernel
theorem dL_law_916 : decode cL_law 916 = .ok (.istore 5, 2) := by decide +kernel
theorem dL_law_918 : decode cL_law 918 = .ok (.aload_n 2, 1) := by decide +kernel
theorem dL_law_919 : decode cL_law 919 = .ok (.aload_n 0, 1) := by decide +kernel
theorem dL_law_920 : decode cL_law 920 = .ok (.iload 4, 2) := by decide +kernel
theorem dL_law_922 : decode cL_law 922 = .ok (.iconst 1, 1) := by decide +kernel
theorem dL_law_923 : decode cL_law 923 = .ok (.iadd, 1) := by decide +kernel
theorem dL_law_924 : decode cL_law 924 = .ok (.iaload, 1) := by decide +kernel
theorem dL_law_925 : decode cL_law 925 = .ok (.aload_n 0, 1) := by decide +kernel
theorem dL_law_926 : decode cL_law 926 = .ok (.iload 4, 2) := by decide +kernel
theorem dL_law_928 : decode cL_law 928 = .ok (.iconst 2, 1) := by decide +kernel
theorem dL_law_929 : decode cL_law 929 = .ok (.iadd, 1) := by decide +kernel
theorem dL_law_930 : decode cL_law 930 = .ok (.iaload, 1) := by decide +kernel
theorem dL_law_931 : decode cL_law 931 = .ok (.invokevirtual 123, 3) := by decide +kernel
theorem dL_law_934 : decode cL_law 934 = .ok (.istore 6, 2) := by decide +kernel
theorem dL_law_936 : decode cL_law 936 = .ok (.aload_n 2, 1) := by decide +kernel
theorem dL_law_937 : decode cL_law 937 = .ok (.invokevirtual 81, 3) := by decide +kernel
theorem dL_law_940 : decode cL_law 940 = .ok (.iload 5, 2) := by decide +kernel
theorem dL_law_942 : decode cL_law 942 = .ok (.if_icmp .eq 5, 3) := by decide +kernel
theorem dL_law_945 : decode cL_law 945 = .ok (.iconst 0, 1) := by decide +kernel
theorem dL_law_946 : decode cL_law 946 = .ok (.ireturn, 1) := by decide +kernel
theorem dL_law_947 : decode cL_law 947 = .ok (.iload 5, 2) := by decide +kernel
theorem dL_law_949 : decode cL_law 949 = .ok (.ifCond .ne 15, 3) := by decide +kernel
theorem dL_law_952 : decode cL_law 952 = .ok (.aload_n 3, 1) := by decide +kernel
theorem dL_law_953 : decode cL_law 953 = .ok (.iconst 0, 1) := by decide +kernel
theorem dL_law_954 : decode cL_law 954 = .ok (.laload, 1) := by decide +kernel
theorem dL_law_955 : decode cL_law 955 = .ok (.iload 6, 2) := by decide +kernel
theorem dL_law_957 : decode cL_law 957 = .ok (.i2l, 1) := by decide +kernel
theorem dL_law_958 : decode cL_law 958 = .ok (.lcmp, 1) := by decide +kernel
theorem dL_law_959 : decode cL_law 959 = .ok (.ifCond .eq 5, 3) := by decide +kernel
theorem dL_law_962 : decode cL_law 962 = .ok (.iconst 0, 1) := by decide +kernel
theorem dL_law_963 : decode cL_law 963 = .ok (.ireturn, 1) := by decide +kernel
theorem dL_law_964 : decode cL_law 964 = .ok (.goto 300, 3) := by decide +kernel
theorem dL_law_967 : decode cL_law 967 = .ok (.aload_n 1, 1) := by decide +kernel
theorem dL_law_968 : decode cL_law 968 = .ok (.aload_n 0, 1) := by decide +kernel
theorem dL_law_969 : decode cL_law 969 = .ok (.iload 4, 2) := by decide +kernel
theorem dL_law_971 : decode cL_law 971 = .ok (.iconst 1, 1) := by decide +kernel
theorem dL_law_972 : decode cL_law 972 = .ok (.iadd, 1) := by decide +kernel
theorem dL_law_973 : decode cL_law 973 = .ok (.iaload, 1) := by decide +kernel
theorem dL_law_974 : decode cL_law 974 = .ok (.aload_n 3, 1) := by decide +kernel
theorem dL_law_975 : decode cL_law 975 = .ok (.invokestatic 124, 3) := by decide +kernel
theorem dL_law_978 : decode cL_law 978 = .ok (.istore 5, 2) := by decide +kernel
theorem dL_law_980 : decode cL_law 980 = .ok (.aload_n 2, 1) := by decide +kernel
theorem dL_law_981 : decode cL_law 981 = .ok (.aload_n 0, 1) := by decide +kernel
theorem dL_law_982 : decode cL_law 982 = .ok (.iload 4, 2) := by decide +kernel
theorem dL_law_984 : decode cL_law 984 = .ok (.iconst 1, 1) := by decide +kernel
theorem dL_law_985 : decode cL_law 985 = .ok (.iadd, 1) := by decide +kernel
theorem dL_law_986 : decode cL_law 986 = .ok (.iaload, 1) := by decide +kernel
theorem dL_law_987 : decode cL_law 987 = .ok (.invokevirtual 126, 3) := by decide +kernel
theorem dL_law_990 : decode cL_law 990 = .ok (.istore 6, 2) := by decide +kernel
theorem dL_law_992 : decode cL_law 992 = .ok (.aload_n 2, 1) := by decide +kernel
theorem dL_law_993 : decode cL_law 993 = .ok (.invokevirtual 81, 3) := by decide +kernel
theorem dL_law_996 : decode cL_law 996 = .ok (.iload 5, 2) := by decide +kernel
theorem dL_law_998 : decode cL_law 998 = .ok (.if_icmp .eq 5, 3) := by decide +kernel
theorem dL_law_1001 : decode cL_law 1001 = .ok (.iconst 0, 1) := by decide +kernel
theorem dL_law_1002 : decode cL_law 1002 = .ok (.ireturn, 1) := by decide +kernel
theorem dL_law_1003 : decode cL_law 1003 = .ok (.iload 5, 2) := by decide +kernel
theorem dL_law_1005 : decode cL_law 1005 = .ok (.ifCond .ne 15, 3) := by decide +kernel
theorem dL_law_1008 : decode cL_law 1008 = .ok (.aload_n 3, 1) := by decide +kernel
theorem dL_law_1009 : decode cL_law 1009 = .ok (.iconst 0, 1) := by decide +kernel
theorem dL_law_1010 : decode cL_law 1010 = .ok (.laload, 1) := by decide +kernel
theorem dL_law_1011 : decode cL_law 1011 = .ok (.iload 6, 2) := by decide +kernel
theorem dL_law_1013 : decode cL_law 1013 = .ok (.i2l, 1) := by decide +kernel
theorem dL_law_1014 : decode cL_law 1014 = .ok (.lcmp, 1) := by decide +kernel
theorem dL_law_1015 : decode cL_law 1015 = .ok (.ifCond .eq 5, 3) := by decide +kernel
theorem dL_law_1018 : decode cL_law 1018 = .ok (.iconst 0, 1) := by decide +kernel
theorem dL_law_1019 : decode cL_law 1019 = .ok (.ireturn, 1) := by decide +kernel
theorem dL_law_1020 : decode cL_law 1020 = .ok (.goto 244, 3) := by decide +kernel
theorem dL_law_1023 : decode cL_law 1023 = .ok (.aload_n 1, 1) := by decide +kernel
theorem dL_law_1024 : decode cL_law 1024 = .ok (.aload_n 0, 1) := by decide +kernel
theorem dL_law_1025 : decode cL_law 1025 = .ok (.iload 4, 2) := by decide +kernel
theorem dL_law_1027 : decode cL_law 1027 = .ok (.iconst 1, 1) := by decide +kernel
theorem dL_law_1028 : decode cL_law 1028 = .ok (.iadd, 1) := by decide +kernel
theorem dL_law_1029 : decode cL_law 1029 = .ok (.iaload, 1) := by decide +kernel
theorem dL_law_1030 : decode cL_law 1030 = .ok (.aload_n 3, 1) := by decide +kernel
theorem dL_law_1031 : decode cL_law 1031 = .ok (.invokestatic 127, 3) := by decide +kernel
theorem dL_law_1034 : decode cL_law 1034 = .ok (.istore 5, 2) := by decide +kernel
theorem dL_law_1036 : decode cL_law 1036 = .ok (.aload_n 2, 1) := by decide +kernel
theorem dL_law_1037 : decode cL_law 1037 = .ok (.aload_n 0, 1) := by decide +kernel
theorem dL_law_1038 : decode cL_law 1038 = .ok (.iload 4, 2) := by decide +kernel
theorem dL_law_1040 : decode cL_law 1040 = .ok (.iconst 1, 1) := by decide +kernel
theorem dL_law_1041 : decode cL_law 1041 = .ok (.iadd, 1) := by decide +kernel
theorem dL_law_1042 : decode cL_law 1042 = .ok (.iaload, 1) := by decide +kernel
theorem dL_law_1043 : decode cL_law 1043 = .ok (.invokevirtual 129, 3) := by decide +kernel
theorem dL_law_1046 : decode cL_law 1046 = .ok (.istore 6, 2) := by decide +kernel
theorem dL_law_1048 : decode cL_law 1048 = .ok (.aload_n 2, 1) := by decide +kernel
theorem dL_law_1049 : decode cL_law 1049 = .ok (.invokevirtual 81, 3) := by decide +kernel
theorem dL_law_1052 : decode cL_law 1052 = .ok (.iload 5, 2) := by decide +kernel
theorem dL_law_1054 : decode cL_law 1054 = .ok (.if_icmp .eq 5, 3) := by decide +kernel
theorem dL_law_1057 : decode cL_law 1057 = .ok (.iconst 0, 1) := by decide +kernel
theorem dL_law_1058 : decode cL_law 1058 = .ok (.ireturn, 1) := by decide +kernel
theorem dL_law_1059 : decode cL_law 1059 = .ok (.iload 5, 2) := by decide +kernel
theorem dL_law_1061 : decode cL_law 1061 = .ok (.ifCond .ne 15, 3) := by decide +kernel
theorem dL_law_1064 : decode cL_law 1064 = .ok (.aload_n 3, 1) := by decide +kernel
theorem dL_law_1065 : decode cL_law 1065 = .ok (.iconst 0, 1) := by decide +kernel
theorem dL_law_1066 : decode cL_law 1066 = .ok (.laload, 1) := by decide +kernel
theorem dL_law_1067 : decode cL_law 1067 = .ok (.iload 6, 2) := by decide +kernel
theorem dL_law_1069 : decode cL_law 1069 = .ok (.i2l, 1) := by decide +kernel
theorem dL_law_1070 : decode cL_law 1070 = .ok (.lcmp, 1) := by decide +kernel
theorem dL_law_1071 : decode cL_law 1071 = .ok (.ifCond .eq 5, 3) := by decide +kernel
theorem dL_law_1074 : decode cL_law 1074 = .ok (.iconst 0, 1) := by decide +kernel
theorem dL_law_1075 : decode cL_law 1075 = .ok (.ireturn, 1) := by decide +kernel
theorem dL_law_1076 : decode cL_law 1076 = .ok (.goto 188, 3) := by decide +kernel
theorem dL_law_1079 : decode cL_law 1079 = .ok (.aload_n 1, 1) := by decide +kernel
theorem dL_law_1080 : decode cL_law 1080 = .ok (.invokevirtual 130, 3) := by decide +kernel
theorem dL_law_1083 : decode cL_law 1083 = .ok (.aload_n 2, 1) := by decide +kernel
theorem dL_law_1084 : decode cL_law 1084 = .ok (.invokevirtual 133, 3) := by decide +kernel
theorem dL_law_1087 : decode cL_law 1087 = .ok (.if_icmp .eq 177, 3) := by decide +kernel
theorem dL_law_1090 : decode cL_law 1090 = .ok (.iconst 0, 1) := by decide +kernel
theorem dL_law_1091 : decode cL_law 1091 = .ok (.ireturn, 1) := by decide +kernel
theorem dL_law_1092 : decode cL_law 1092 = .ok (.aload_n 1, 1) := by decide +kernel
theorem dL_law_1093 : decode cL_law 1093 = .ok (.aload_n 0, 1) := by decide +kernel
theorem dL_law_1094 : decode cL_law 1094 = .ok (.iload 4, 2) := by decide +kernel
theorem dL_law_1096 : decode cL_law 1096 = .ok (.iconst 1, 1) := by decide +kernel
theorem dL_law_1097 : decode cL_law 1097 = .ok (.iadd, 1) := by decide +kernel
theorem dL_law_1098 : decode cL_law 1098 = .ok (.iaload, 1) := by decide +kernel
theorem dL_law_1099 : decode cL_law 1099 = .ok (.aload_n 0, 1) := by decide +kernel
theorem dL_law_1100 : decode cL_law 1100 = .ok (.iload 4, 2) := by decide +kernel
theorem dL_law_1102 : decode cL_law 1102 = .ok (.iconst 2, 1) := by decide +kernel
theorem dL_law_1103 : decode cL_law 1103 = .ok (.iadd, 1) := by decide +kernel
theorem dL_law_1104 : decode cL_law 1104 = .ok (.iaload, 1) := by decide +kernel
theorem dL_law_1105 : decode cL_law 1105 = .ok (.aload_n 0, 1) := by decide +kernel
theorem dL_law_1106 : decode cL_law 1106 = .ok (.iload 4, 2) := by decide +kernel
theorem dL_law_1108 : decode cL_law 1108 = .ok (.iconst 3, 1) := by decide +kernel
theorem dL_law_1109 : decode cL_law 1109 = .ok (.iadd, 1) := by decide +kernel
theorem dL_law_1110 : decode cL_law 1110 = .ok (.iaload, 1) := by decide +kernel
theorem dL_law_1111 : decode cL_law 1111 = .ok (.aload_n 3, 1) := by decide +kernel
theorem dL_law_1112 : decode cL_law 1112 = .ok (.invokestatic 134, 3) := by decide +kernel
theorem dL_law_1115 : decode cL_law 1115 = .ok (.istore 5, 2) := by decide +kernel
theorem dL_law_1117 : decode cL_law 1117 = .ok (.aload_n 2, 1) := by decide +kernel
theorem dL_law_1118 : decode cL_law 1118 = .ok (.aload_n 0, 1) := by decide +kernel
theorem dL_law_1119 : decode cL_law 1119 = .ok (.iload 4, 2) := by decide +kernel
theorem dL_law_1121 : decode cL_law 1121 = .ok (.iconst 1, 1) := by decide +kernel
theorem dL_law_1122 : decode cL_law 1122 = .ok (.iadd, 1) := by decide +kernel
theorem dL_law_1123 : decode cL_law 1123 = .ok (.iaload, 1) := by decide +kernel
theorem dL_law_1124 : decode cL_law 1124 = .ok (.aload_n 0, 1) := by decide +kernel
theorem dL_law_1125 : decode cL_law 1125 = .ok (.iload 4, 2) := by decide +kernel
theorem dL_law_1127 : decode cL_law 1127 = .ok (.iconst 2, 1) := by decide +kernel
theorem dL_law_1128 : decode cL_law 1128 = .ok (.iadd, 1) := by decide +kernel
theorem dL_law_1129 : decode cL_law 1129 = .ok (.iaload, 1) := by decide +kernel
theorem dL_law_1130 : decode cL_law 1130 = .ok (.aload_n 0, 1) := by decide +kernel
theorem dL_law_1131 : decode cL_law 1131 = .ok (.iload 4, 2) := by decide +kernel
theorem dL_law_1133 : decode cL_law 1133 = .ok (.iconst 3, 1) := by decide +kernel
theorem dL_law_1134 : decode cL_law 1134 = .ok (.iadd, 1) := by decide +kernel
theorem dL_law_1135 : decode cL_law 1135 = .ok (.iaload, 1) := by decide +kernel
theorem dL_law_1136 : decode cL_law 1136 = .ok (.invokevirtual 136, 3) := by decide +kernel
theorem dL_law_1139 : decode cL_law 1139 = .ok (.istore 6, 2) := by decide +kernel
theorem dL_law_1141 : decode cL_law 1141 = .ok (.aload_n 2, 1) := by decide +kernel
theorem dL_law_1142 : decode cL_law 1142 = .ok (.invokevirtual 81, 3) := by decide +kernel
theorem dL_law_1145 : decode cL_law 1145 = .ok (.iload 5, 2) := by decide +kernel
theorem dL_law_1147 : decode cL_law 1147 = .ok (.if_icmp .eq 5, 3) := by decide +kernel
theorem dL_law_1150 : decode cL_law 1150 = .ok (.iconst 0, 1) := by decide +kernel
theorem dL_law_1151 : decode cL_law 1151 = .ok (.ireturn, 1) := by decide +kernel
theorem dL_law_1152 : decode cL_law 1152 = .ok (.iload 5, 2) := by decide +kernel
theorem dL_law_1154 : decode cL_law 1154 = .ok (.ifCond .ne 15, 3) := by decide +kernel
theorem dL_law_1157 : decode cL_law 1157 = .ok (.aload_n 3, 1) := by decide +kernel
theorem dL_law_1158 : decode cL_law 1158 = .ok (.iconst 0, 1) := by decide +kernel
theorem dL_law_1159 : decode cL_law 1159 = .ok (.laload, 1) := by decide +kernel
theorem dL_law_1160 : decode cL_law 1160 = .ok (.iload 6, 2) := by decide +kernel
theorem dL_law_1162 : decode cL_law 1162 = .ok (.i2l, 1) := by decide +kernel
theorem dL_law_1163 : decode cL_law 1163 = .ok (.lcmp, 1) := by decide +kernel
theorem dL_law_1164 : decode cL_law 1164 = .ok (.ifCond .eq 5, 3) := by decide +kernel
theorem dL_law_1167 : decode cL_law 1167 = .ok (.iconst 0, 1) := by decide +kernel
theorem dL_law_1168 : decode cL_law 1168 = .ok (.ireturn, 1) := by decide +kernel
theorem dL_law_1169 : decode cL_law 1169 = .ok (.goto 95, 3) := by decide +kernel
theorem dL_law_1172 : decode cL_law 1172 = .ok (.aload_n 1, 1) := by decide +kernel
theorem dL_law_1173 : decode cL_law 1173 = .ok (.aload_n 0, 1) := by decide +kernel
theorem dL_law_1174 : decode cL_law 1174 = .ok (.iload 4, 2) := by decide +kernel
theorem dL_law_1176 : decode cL_law 1176 = .ok (.iconst 1, 1) := by decide +kernel
theorem dL_law_1177 : decode cL_law 1177 = .ok (.iadd, 1) := by decide +kernel
theorem dL_law_1178 : decode cL_law 1178 = .ok (.iaload, 1) := by decide +kernel
theorem dL_law_1179 : decode cL_law 1179 = .ok (.aload_n 0, 1) := by decide +kernel
theorem dL_law_1180 : decode cL_law 1180 = .ok (.iload 4, 2) := by decide +kernel
theorem dL_law_1182 : decode cL_law 1182 = .ok (.iconst 2, 1) := by decide +kernel
theorem dL_law_1183 : decode cL_law 1183 = .ok (.iadd, 1) := by decide +kernel
theorem dL_law_1184 : decode cL_law 1184 = .ok (.iaload, 1) := by decide +kernel
theorem dL_law_1185 : decode cL_law 1185 = .ok (.aload_n 0, 1) := by decide +kernel
theorem dL_law_1186 : decode cL_law 1186 = .ok (.iload 4, 2) := by decide +kernel
theorem dL_law_1188 : decode cL_law 1188 = .ok (.iconst 3, 1) := by decide +kernel
theorem dL_law_1189 : decode cL_law 1189 = .ok (.iadd, 1) := by decide +kernel
theorem dL_law_1190 : decode cL_law 1190 = .ok (.iaload, 1) := by decide +kernel
theorem dL_law_1191 : decode cL_law 1191 = .ok (.aload_n 0, 1) := by decide +kernel
theorem dL_law_1192 : decode cL_law 1192 = .ok (.iload 4, 2) := by decide +kernel
theorem dL_law_1194 : decode cL_law 1194 = .ok (.iconst 4, 1) := by decide +kernel
theorem dL_law_1195 : decode cL_law 1195 = .ok (.iadd, 1) := by decide +kernel
theorem dL_law_1196 : decode cL_law 1196 = .ok (.iaload, 1) := by decide +kernel
theorem dL_law_1197 : decode cL_law 1197 = .ok (.aload_n 3, 1) := by decide +kernel
theorem dL_law_1198 : decode cL_law 1198 = .ok (.invokestatic 137, 3) := by decide +kernel
theorem dL_law_1201 : decode cL_law 1201 = .ok (.istore 5, 2) := by decide +kernel
theorem dL_law_1203 : decode cL_law 1203 = .ok (.aload_n 2, 1) := by decide +kernel
theorem dL_law_1204 : decode cL_law 1204 = .ok (.aload_n 0, 1) := by decide +kernel
theorem dL_law_1205 : decode cL_law 1205 = .ok (.iload 4, 2) := by decide +kernel
theorem dL_law_1207 : decode cL_law 1207 = .ok (.iconst 1, 1) := by decide +kernel
theorem dL_law_1208 : decode cL_law 1208 = .ok (.iadd, 1) := by decide +kernel
theorem dL_law_1209 : decode cL_law 1209 = .ok (.iaload, 1) := by decide +kernel
theorem dL_law_1210 : decode cL_law 1210 = .ok (.aload_n 0, 1) := by decide +kernel
theorem dL_law_1211 : decode cL_law 1211 = .ok (.iload 4, 2) := by decide +kernel
theorem dL_law_1213 : decode cL_law 1213 = .ok (.iconst 2, 1) := by decide +kernel
theorem dL_law_1214 : decode cL_law 1214 = .ok (.iadd, 1) := by decide +kernel
theorem dL_law_1215 : decode cL_law 1215 = .ok (.iaload, 1) := by decide +kernel
theorem dL_law_1216 : decode cL_law 1216 = .ok (.aload_n 0, 1) := by decide +kernel
theorem dL_law_1217 : decode cL_law 1217 = .ok (.iload 4, 2) := by decide +kernel
theorem dL_law_1219 : decode cL_law 1219 = .ok (.iconst 3, 1) := by decide +kernel
theorem dL_law_1220 : decode cL_law 1220 = .ok (.iadd, 1) := by decide +kernel
theorem dL_law_1221 : decode cL_law 1221 = .ok (.iaload, 1) := by decide +kernel
theorem dL_law_1222 : decode cL_law 1222 = .ok (.aload_n 0, 1) := by decide +kernel
theorem dL_law_1223 : decode cL_law 1223 = .ok (.iload 4, 2) := by decide +kernel
theorem dL_law_1225 : decode cL_law 1225 = .ok (.iconst 4, 1) := by decide +kernel
theorem dL_law_1226 : decode cL_law 1226 = .ok (.iadd, 1) := by decide +kernel
theorem dL_law_1227 : decode cL_law 1227 = .ok (.iaload, 1) := by decide +kernel
theorem dL_law_1228 : decode cL_law 1228 = .ok (.invokevirtual 139, 3) := by decide +kernel
theorem dL_law_1231 : decode cL_law 1231 = .ok (.istore 6, 2) := by decide +kernel
theorem dL_law_1233 : decode cL_law 1233 = .ok (.aload_n 2, 1) := by decide +kernel
theorem dL_law_1234 : decode cL_law 1234 = .ok (.invokevirtual 81, 3) := by decide +kernel
theorem dL_law_1237 : decode cL_law 1237 = .ok (.iload 5, 2) := by decide +kernel
theorem dL_law_1239 : decode cL_law 1239 = .ok (.if_icmp .eq 5, 3) := by decide +kernel
theorem dL_law_1242 : decode cL_law 1242 = .ok (.iconst 0, 1) := by decide +kernel
theorem dL_law_1243 : decode cL_law 1243 = .ok (.ireturn, 1) := by decide +kernel
theorem dL_law_1244 : decode cL_law 1244 = .ok (.iload 5, 2) := by decide +kernel
theorem dL_law_1246 : decode cL_law 1246 = .ok (.ifCond .ne 15, 3) := by decide +kernel
theorem dL_law_1249 : decode cL_law 1249 = .ok (.aload_n 3, 1) := by decide +kernel
theorem dL_law_1250 : decode cL_law 1250 = .ok (.iconst 0, 1) := by decide +kernel
theorem dL_law_1251 : decode cL_law 1251 = .ok (.laload, 1) := by decide +kernel
theorem dL_law_1252 : decode cL_law 1252 = .ok (.iload 6, 2) := by decide +kernel
theorem dL_law_1254 : decode cL_law 1254 = .ok (.i2l, 1) := by decide +kernel
theorem dL_law_1255 : decode cL_law 1255 = .ok (.lcmp, 1) := by decide +kernel
theorem dL_law_1256 : decode cL_law 1256 = .ok (.ifCond .eq 5, 3) := by decide +kernel
theorem dL_law_1259 : decode cL_law 1259 = .ok (.iconst 0, 1) := by decide +kernel
theorem dL_law_1260 : decode cL_law 1260 = .ok (.ireturn, 1) := by decide +kernel
theorem dL_law_1261 : decode cL_law 1261 = .ok (.goto 3, 3) := by decide +kernel
theorem dL_law_1264 : decode cL_law 1264 = .ok (.iinc 4 5, 3) := by decide +kernel
theorem dL_law_1267 : decode cL_law 1267 = .ok (.goto (-1244), 3) := by decide +kernel
theorem dL_law_1270 : decode cL_law 1270 = .ok (.iconst 1, 1) := by decide +kernel
theorem dL_law_1271 : decode cL_law 1271 = .ok (.ireturn, 1) := by decide +kernel
