set_option maxRecDepth 20000 in
theorem ggX3_noteLatest_X3_cuesOf : GoodIn wsX3_noteLatest wsX3_cuesOf := goodIn_r _ [6, 7, 8, 22, 23, 24, 25, 26, 27, 28] (by decide +kernel) (by decide +kernel)
set_option maxRecDepth 20000 in
theorem gX3_noteLatest_X3_cuesOf : GoodIn wsX3_noteLatest (wsV RX3 104 RX3 yX3_cuesOf wsX3_cuesOf) := goodIn_app (goodIn_of _ (by decide +kernel)) ggX3_noteLatest_X3_cuesOf
set_option maxRecDepth 20000 in
theorem ggX3_noteLatest_X0_told : GoodIn wsX3_noteLatest wsX0_told := goodIn_r _ [13, 14, 15, 16, 17, 12, 18, 19, 20, 5, 21, 29, 30, 31, 32, 33, 34, 35, 36, 37] (by decide +kernel) (by decide +kernel)
set_option maxRecDepth 20000 in
theorem gX3_noteLatest_X0_told : GoodIn wsX3_noteLatest (wsV RX3 120 RX0 yX0_told wsX0_told) := goodIn_app (goodIn_of _ (by decide +kernel)) ggX3_noteLatest_X0_told
theorem dX3_noteLatest_0 : decode cX3_noteLatest 0 = .ok (.aload_n 0, 1) := by decide +kernel
theorem dX3_noteLatest_1 : decode cX3_noteLatest 1 = .ok (.iload_n 1, 1) := by decide +kernel
theorem dX3_noteLatest_2 : decode cX3_noteLatest 2 = .ok (.invokevirtual 104, 3) := by decide +kernel
theorem dX3_noteLatest_5 : decode cX3_noteLatest 5 = .ok (.astore_n 3, 1) := by decide +kernel
theorem dX3_noteLatest_6 : decode cX3_noteLatest 6 = .ok (.iconst 0, 1) := by decide +kernel
theorem dX3_noteLatest_7 : decode cX3_noteLatest 7 = .ok (.istore 4, 2) := by decide +kernel
theorem dX3_noteLatest_9 : decode cX3_noteLatest 9 = .ok (.iload 4, 2) := by decide +kernel
theorem dX3_noteLatest_11 : decode cX3_noteLatest 11 = .ok (.bipush 12, 2) := by decide +kernel
theorem dX3_noteLatest_13 : decode cX3_noteLatest 13 = .ok (.if_icmp .ge 28, 3) := by decide +kernel
theorem dX3_noteLatest_16 : decode cX3_noteLatest 16 = .ok (.aload_n 3, 1) := by decide +kernel
theorem dX3_noteLatest_17 : decode cX3_noteLatest 17 = .ok (.iload_n 2, 1) := by decide +kernel
theorem dX3_noteLatest_18 : decode cX3_noteLatest 18 = .ok (.iload 4, 2) := by decide +kernel
theorem dX3_noteLatest_20 : decode cX3_noteLatest 20 = .ok (.invokevirtual 120, 3) := by decide +kernel
theorem dX3_noteLatest_23 : decode cX3_noteLatest 23 = .ok (.iconst (-1), 1) := by decide +kernel
theorem dX3_noteLatest_24 : decode cX3_noteLatest 24 = .ok (.if_icmp .eq 11, 3) := by decide +kernel
theorem dX3_noteLatest_27 : decode cX3_noteLatest 27 = .ok (.aload_n 0, 1) := by decide +kernel
theorem dX3_noteLatest_28 : decode cX3_noteLatest 28 = .ok (.getfield 37, 3) := by decide +kernel
theorem dX3_noteLatest_31 : decode cX3_noteLatest 31 = .ok (.iload 4, 2) := by decide +kernel
theorem dX3_noteLatest_33 : decode cX3_noteLatest 33 = .ok (.iload_n 1, 1) := by decide +kernel
theorem dX3_noteLatest_34 : decode cX3_noteLatest 34 = .ok (.iastore, 1) := by decide +kernel
theorem dX3_noteLatest_35 : decode cX3_noteLatest 35 = .ok (.iinc 4 1, 3) := by decide +kernel
theorem dX3_noteLatest_38 : decode cX3_noteLatest 38 = .ok (.goto (-29), 3) := by decide +kernel
theorem dX3_noteLatest_41 : decode cX3_noteLatest 41 = .ok (.return_, 1) := by decide +kernel
set_option maxRecDepth 20000 in
theorem ggX3_passTenth_X3_cuesOf : GoodIn wsX3_passTenth wsX3_cuesOf := goodIn_r _ [5, 6, 7, 59, 60, 61, 62, 63, 64, 65] (by decide +kernel) (by decide +kernel)
set_option maxRecDepth 20000 in
theorem gX3_passTenth_X3_cuesOf : GoodIn wsX3_passTenth (wsV RX3 104 RX3 yX3_cuesOf wsX3_cuesOf) := goodIn_app (goodIn_of _ (by decide +kernel)) ggX3_passTenth_X3_cuesOf
set_option maxRecDepth 20000 in
theorem ggX3_passTenth_X0_endsInNextTenth : GoodIn wsX3_passTenth wsX0_endsInNextTenth := goodIn_r _ [12, 13, 14, 15, 16, 11, 17, 18, 19, 20, 21, 22, 23, 24, 25, 66, 67, 68, 69, 70, 71, 72, 73, 74] (by decide +kernel) (by decide +kernel)
set_option maxRecDepth 20000 in
theorem gX3_passTenth_X0_endsInNextTenth : GoodIn wsX3_passTenth (wsV RX3 203 RX0 yX0_endsInNextTenth wsX0_endsInNextTenth) := goodIn_app (goodIn_of _ (by decide +kernel)) ggX3_passTenth_X0_endsInNextTenth
set_option maxRecDepth 20000 in
theorem ggX3_passTenth_X0_follower : GoodIn wsX3_passTenth wsX0_follower := goodIn_r _ [29, 18, 30, 21, 22, 23, 11, 24, 25, 66, 67, 68, 69, 70, 71, 72, 73, 74] (by decide +kernel) (by decide +kernel)
set_option maxRecDepth 20000 in
theorem gX3_passTenth_X0_follower : GoodIn wsX3_passTenth (wsV RX3 200 RX0 yX0_follower wsX0_follower) := goodIn_app (goodIn_of _ (by decide +kernel)) ggX3_passTenth_X0_follower
set_option maxRecDepth 20000 in
theorem ggX3_passTenth_X3_beginFrom : GoodIn wsX3_passTenth wsX3_beginFrom := goodIn_r _ [34, 1, 2, 3, 4, 5, 6, 7, 35, 36, 37, 11, 38, 39, 40, 18, 13, 41, 42, 43, 44, 20, 19, 21, 22, 23, 24, 25, 45, 46, 47, 48, 49, 50, 51, 52, 53, 54, 55, 56, 57, 58, 15, 16, 17, 26, 27, 28, 29, 30, 59, 60, 61, 62, 63, 64, 65, 66, 67, 68, 69, 70, 71, 72, 73, 74] (by decide +kernel) (by decide +kernel)
set_option maxRecDepth 20000 in
theorem gX3_passTenth_X3_beginFrom : GoodIn wsX3_passTenth (wsV RX3 144 RX3 yX3_beginFrom wsX3_beginFrom) := goodIn_app (goodIn_of _ (by decide +kernel)) ggX3_passTenth_X3_beginFrom
theorem dX3_passTenth_0 : decode cX3_passTenth 0 = .ok (.aload_n 0, 1) := by decide +kernel
theorem dX3_passTenth_1 : decode cX3_passTenth 1 = .ok (.iload_n 1, 1) := by decide +kernel
theorem dX3_passTenth_2 : decode cX3_passTenth 2 = .ok (.invokevirtual 104, 3) := by decide +kernel
theorem dX3_passTenth_5 : decode cX3_passTenth 5 = .ok (.astore_n 2, 1) := by decide +kernel
theorem dX3_passTenth_6 : decode cX3_passTenth 6 = .ok (.aload_n 2, 1) := by decide +kernel
theorem dX3_passTenth_7 : decode cX3_passTenth 7 = .ok (.invokevirtual 203, 3) := by decide +kernel
theorem dX3_passTenth_10 : decode cX3_passTenth 10 = .ok (.ifCond .eq 15, 3) := by decide +kernel
theorem dX3_passTenth_13 : decode cX3_passTenth 13 = .ok (.aload_n 0, 1) := by decide +kernel
theorem dX3_passTenth_14 : decode cX3_passTenth 14 = .ok (.iload_n 1, 1) := by decide +kernel
theorem dX3_passTenth_15 : decode cX3_passTenth 15 = .ok (.aload_n 2, 1) := by decide +kernel
theorem dX3_passTenth_16 : decode cX3_passTenth 16 = .ok (.invokevirtual 200, 3) := by decide +kernel
theorem dX3_passTenth_19 : decode cX3_passTenth 19 = .ok (.invokevirtual 144, 3) := by decide +kernel
theorem dX3_passTenth_22 : decode cX3_passTenth 22 = .ok (.goto 4, 3) := by decide +kernel
theorem dX3_passTenth_25 : decode cX3_passTenth 25 = .ok (.iconst 0, 1) := by decide +kernel
theorem dX3_passTenth_26 : decode cX3_passTenth 26 = .ok (.ireturn, 1) := by decide +kernel
set_option maxRecDepth 20000 in
theorem ggX3_takeBackLast_X1_lastPart : GoodIn wsX3_takeBackLast wsX1_lastPart := goodIn_r _ [7, 8, 9, 10, 11, 6, 12, 13, 14, 15, 16, 63, 64, 65] (by decide +kernel) (by decide +kernel)
set_option maxRecDepth 20000 in
theorem gX3_takeBackLast_X1_lastPart : GoodIn wsX3_takeBackLast (wsV RX3 206 RX1 yX1_lastPart wsX1_lastPart) := goodIn_app (goodIn_of _ (by decide +kernel)) ggX3_takeBackLast_X1_lastPart
set_option maxRecDepth 20000 in
theorem ggX3_takeBackLast_X2_setKind : GoodIn wsX3_takeBackLast wsX2_setKind := goodIn_r _ [21, 22, 23, 24, 25, 26, 20, 27, 28, 66, 67, 68, 69] (by decide +kernel) (by decide +kernel)
set_option maxRecDepth 20000 in
theorem gX3_takeBackLast_X2_setKind : GoodIn wsX3_takeBackLast (wsV RX3 75 RX2 yX2_setKind wsX2_setKind) := goodIn_app (goodIn_of _ (by decide +kernel)) ggX3_takeBackLast_X2_setKind
set_option maxRecDepth 20000 in
theorem ggX3_takeBackLast_X2_setChannel : GoodIn wsX3_takeBackLast wsX2_setChannel := goodIn_r _ [32, 33, 34, 35, 36, 24, 25, 26, 20, 27, 28, 66, 67, 68, 69] (by decide +kernel) (by decide +kernel)
set_option maxRecDepth 20000 in
theorem gX3_takeBackLast_X2_setChannel : GoodIn wsX3_takeBackLast (wsV RX3 88 RX2 yX2_setChannel wsX2_setChannel) := goodIn_app (goodIn_of _ (by decide +kernel)) ggX3_takeBackLast_X2_setChannel
set_option maxRecDepth 20000 in
theorem ggX3_takeBackLast_X3_cuesOf : GoodIn wsX3_takeBackLast wsX3_cuesOf := goodIn_r _ [40, 41, 42, 56, 57, 58, 59, 60, 61, 62] (by decide +kernel) (by decide +kernel)
set_option maxRecDepth 20000 in
theorem gX3_takeBackLast_X3_cuesOf : GoodIn wsX3_takeBackLast (wsV RX3 104 RX3 yX3_cuesOf wsX3_cuesOf) := goodIn_app (goodIn_of _ (by decide +kernel)) ggX3_takeBackLast_X3_cuesOf
set_option maxRecDepth 20000 in
theorem ggX3_takeBackLast_X0_tell : GoodIn wsX3_takeBackLast wsX0_tell := goodIn_r _ [47, 48, 49, 50, 51, 46, 52, 53, 54, 35, 55, 70, 71, 72, 73, 74, 75, 76, 77, 78] (by decide +kernel) (by decide +kernel)
set_option maxRecDepth 20000 in
theorem gX3_takeBackLast_X0_tell : GoodIn wsX3_takeBackLast (wsV RX3 123 RX0 yX0_tell wsX0_tell) := goodIn_app (goodIn_of _ (by decide +kernel)) ggX3_takeBackLast_X0_tell
theorem dX3_takeBackLast_0 : decode cX3_takeBackLast 0 = .ok (.aload_n 0, 1) := by decide +kernel
theorem dX3_takeBackLast_1 : decode cX3_takeBackLast 1 = .ok (.getfield 29, 3) := by decide +kernel
theorem dX3_takeBackLast_4 : decode cX3_takeBackLast 4 = .ok (.iconst 1, 1) := by decide +kernel
theorem dX3_takeBackLast_5 : decode cX3_takeBackLast 5 = .ok (.invokevirtual 206, 3) := by decide +kernel
theorem dX3_takeBackLast_8 : decode cX3_takeBackLast 8 = .ok (.istore_n 1, 1) := by decide +kernel
theorem dX3_takeBackLast_9 : decode cX3_takeBackLast 9 = .ok (.aload_n 0, 1) := by decide +kernel
theorem dX3_takeBackLast_10 : decode cX3_takeBackLast 10 = .ok (.getfield 29, 3) := by decide +kernel
theorem dX3_takeBackLast_13 : decode cX3_takeBackLast 13 = .ok (.iconst 2, 1) := by decide +kernel
theorem dX3_takeBackLast_14 : decode cX3_takeBackLast 14 = .ok (.invokevirtual 206, 3) := by decide +kernel
theorem dX3_takeBackLast_17 : decode cX3_takeBackLast 17 = .ok (.istore_n 2, 1) := by decide +kernel
theorem dX3_takeBackLast_18 : decode cX3_takeBackLast 18 = .ok (.aload_n 0, 1) := by decide +kernel
theorem dX3_takeBackLast_19 : decode cX3_takeBackLast 19 = .ok (.getfield 29, 3) := by decide +kernel
theorem dX3_takeBackLast_22 : decode cX3_takeBackLast 22 = .ok (.iconst 3, 1) := by decide +kernel
theorem dX3_takeBackLast_23 : decode cX3_takeBackLast 23 = .ok (.invokevirtual 206, 3) := by decide +kernel
theorem dX3_takeBackLast_26 : decode cX3_takeBackLast 26 = .ok (.istore_n 3, 1) := by decide +kernel
theorem dX3_takeBackLast_27 : decode cX3_takeBackLast 27 = .ok (.aload_n 0, 1) := by decide +kernel
theorem dX3_takeBackLast_28 : decode cX3_takeBackLast 28 = .ok (.getfield 29, 3) := by decide +kernel
theorem dX3_takeBackLast_31 : decode cX3_takeBackLast 31 = .ok (.iconst 4, 1) := by decide +kernel
theorem dX3_takeBackLast_32 : decode cX3_takeBackLast 32 = .ok (.invokevirtual 206, 3) := by decide +kernel
theorem dX3_takeBackLast_35 : decode cX3_takeBackLast 35 = .ok (.istore 4, 2) := by decide +kernel
theorem dX3_takeBackLast_37 : decode cX3_takeBackLast 37 = .ok (.aload_n 0, 1) := by decide +kernel
theorem dX3_takeBackLast_38 : decode cX3_takeBackLast 38 = .ok (.getfield 29, 3) := by decide +kernel
theorem dX3_takeBackLast_41 : decode cX3_takeBackLast 41 = .ok (.iconst 0, 1) := by decide +kernel
theorem dX3_takeBackLast_42 : decode cX3_takeBackLast 42 = .ok (.invokevirtual 206, 3) := by decide +kernel
theorem dX3_takeBackLast_45 : decode cX3_takeBackLast 45 = .ok (.lookupswitch 53 #[(0, 27), (1, 40)], 27) := by decide +kernel
theorem dX3_takeBackLast_72 : decode cX3_takeBackLast 72 = .ok (.aload_n 0, 1) := by decide +kernel
theorem dX3_takeBackLast_73 : decode cX3_takeBackLast 73 = .ok (.getfield 10, 3) := by decide +kernel
theorem dX3_takeBackLast_76 : decode cX3_takeBackLast 76 = .ok (.iload_n 1, 1) := by decide +kernel
theorem dX3_takeBackLast_77 : decode cX3_takeBackLast 77 = .ok (.iload_n 2, 1) := by decide +kernel
theorem dX3_takeBackLast_78 : decode cX3_takeBackLast 78 = .ok (.iload_n 3, 1) := by decide +kernel
theorem dX3_takeBackLast_79 : decode cX3_takeBackLast 79 = .ok (.invokevirtual 75, 3) := by decide +kernel
theorem dX3_takeBackLast_82 : decode cX3_takeBackLast 82 = .ok (.goto 28, 3) := by decide +kernel
theorem dX3_takeBackLast_85 : decode cX3_takeBackLast 85 = .ok (.aload_n 0, 1) := by decide +kernel
theorem dX3_takeBackLast_86 : decode cX3_takeBackLast 86 = .ok (.getfield 10, 3) := by decide +kernel
theorem dX3_takeBackLast_89 : decode cX3_takeBackLast 89 = .ok (.iload_n 1, 1) := by decide +kernel
theorem dX3_takeBackLast_90 : decode cX3_takeBackLast 90 = .ok (.iload_n 2, 1) := by decide +kernel
theorem dX3_takeBackLast_91 : decode cX3_takeBackLast 91 = .ok (.iload_n 3, 1) := by decide +kernel
theorem dX3_takeBackLast_92 : decode cX3_takeBackLast 92 = .ok (.invokevirtual 88, 3) := by decide +kernel
theorem dX3_takeBackLast_95 : decode cX3_takeBackLast 95 = .ok (.goto 15, 3) := by decide +kernel
theorem dX3_takeBackLast_98 : decode cX3_takeBackLast 98 = .ok (.aload_n 0, 1) := by decide +kernel
theorem dX3_takeBackLast_99 : decode cX3_takeBackLast 99 = .ok (.iload_n 1, 1) := by decide +kernel
theorem dX3_takeBackLast_100 : decode cX3_takeBackLast 100 = .ok (.invokevirtual 104, 3) := by decide +kernel
theorem dX3_takeBackLast_103 : decode cX3_takeBackLast 103 = .ok (.iload_n 2, 1) := by decide +kernel
theorem dX3_takeBackLast_104 : decode cX3_takeBackLast 104 = .ok (.iload_n 3, 1) := by decide +kernel
theorem dX3_takeBackLast_105 : decode cX3_takeBackLast 105 = .ok (.iload 4, 2) := by decide +kernel
theorem dX3_takeBackLast_107 : decode cX3_takeBackLast 107 = .ok (.invokevirtual 123, 3) := by decide +kernel
theorem dX3_takeBackLast_110 : decode cX3_takeBackLast 110 = .ok (.return_, 1) := by decide +kernel
theorem dX3_cuesOf_0 : decode cX3_cuesOf 0 = .ok (.iload_n 1, 1) := by decide +kernel
theorem dX3_cuesOf_1 : decode cX3_cuesOf 1 = .ok (.ifCond .ne 10, 3) := by decide +kernel
theorem dX3_cuesOf_4 : decode cX3_cuesOf 4 = .ok (.aload_n 0, 1) := by decide +kernel
theorem dX3_cuesOf_5 : decode cX3_cuesOf 5 = .ok (.getfield 19, 3) := by decide +kernel
theorem dX3_cuesOf_8 : decode cX3_cuesOf 8 = .ok (.goto 7, 3) := by decide +kernel
theorem dX3_cuesOf_11 : decode cX3_cuesOf 11 = .ok (.aload_n 0, 1) := by decide +kernel
theorem dX3_cuesOf_12 : decode cX3_cuesOf 12 = .ok (.getfield 23, 3) := by decide +kernel
theorem dX3_cuesOf_15 : decode cX3_cuesOf 15 = .ok (.areturn, 1) := by decide +kernel
set_option maxRecDepth 20000 in
theorem ggX3_needLamp_X2_has : GoodIn wsX3_needLamp wsX2_has := goodIn_r _ [8, 9, 17, 18, 19, 20] (by decide +kernel) (by decide +kernel)
set_option maxRecDepth 20000 in
theorem gX3_needLamp_X2_has : GoodIn wsX3_needLamp (wsV RX3 209 RX2 yX2_has wsX2_has) := goodIn_app (goodIn_of _ (by decide +kernel)) ggX3_needLamp_X2_has
theorem dX3_needLamp_0 : decode cX3_needLamp 0 = .ok (.aload_n 0, 1) := by decide +kernel
theorem dX3_needLamp_1 : decode cX3_needLamp 1 = .ok (.getfield 10, 3) := by decide +kernel
theorem dX3_needLamp_4 : decode cX3_needLamp 4 = .ok (.iload_n 1, 1) := by decide +kernel
theorem dX3_needLamp_5 : decode cX3_needLamp 5 = .ok (.invokevirtual 209, 3) := by decide +kernel
theorem dX3_needLamp_8 : decode cX3_needLamp 8 = .ok (.ifCond .ne 13, 3) := by decide +kernel
theorem dX3_needLamp_11 : decode cX3_needLamp 11 = .ok (.new 212, 3) := by decide +kernel
theorem dX3_needLamp_14 : decode cX3_needLamp 14 = .ok (.dup, 1) := by decide +kernel
theorem dX3_needLamp_15 : decode cX3_needLamp 15 = .ok (.ldc 214, 2) := by decide +kernel
theorem dX3_needLamp_17 : decode cX3_needLamp 17 = .ok (.invokespecial 216, 3) := by decide +kernel
theorem dX3_needLamp_20 : decode cX3_needLamp 20 = .ok (.athrow, 1) := by decide +kernel
theorem dX3_needLamp_21 : decode cX3_needLamp 21 = .ok (.return_, 1) := by decide +kernel
set_option maxRecDepth 20000 in
theorem ggX3_needCue_X3_cuesOf : GoodIn wsX3_needCue wsX3_cuesOf := goodIn_r _ [7, 8, 9, 16, 17, 18, 19, 20, 21, 22] (by decide +kernel) (by decide +kernel)
set_option maxRecDepth 20000 in
theorem gX3_needCue_X3_cuesOf : GoodIn wsX3_needCue (wsV RX3 104 RX3 yX3_cuesOf wsX3_cuesOf) := goodIn_app (goodIn_of _ (by decide +kernel)) ggX3_needCue_X3_cuesOf
set_option maxRecDepth 20000 in
theorem ggX3_needCue_X0_has : GoodIn wsX3_needCue wsX0_has := goodIn_r _ [14, 15, 23, 24, 25, 26, 27, 28, 29, 30, 31] (by decide +kernel) (by decide +kernel)
set_option maxRecDepth 20000 in
theorem gX3_needCue_X0_has : GoodIn wsX3_needCue (wsV RX3 217 RX0 yX0_has wsX0_has) := goodIn_app (goodIn_of _ (by decide +kernel)) ggX3_needCue_X0_has
theorem dX3_needCue_0 : decode cX3_needCue 0 = .ok (.aload_n 0, 1) := by decide +kernel
theorem dX3_needCue_1 : decode cX3_needCue 1 = .ok (.iload_n 1, 1) := by decide +kernel
theorem dX3_needCue_2 : decode cX3_needCue 2 = .ok (.invokevirtual 104, 3) := by decide +kernel
theorem dX3_needCue_5 : decode cX3_needCue 5 = .ok (.iload_n 2, 1) := by decide +kernel
theorem dX3_needCue_6 : decode cX3_needCue 6 = .ok (.invokevirtual 217, 3) := by decide +kernel
theorem dX3_needCue_9 : decode cX3_needCue 9 = .ok (.ifCond .ne 13, 3) := by decide +kernel
theorem dX3_needCue_12 : decode cX3_needCue 12 = .ok (.new 212, 3) := by decide +kernel
theorem dX3_needCue_15 : decode cX3_needCue 15 = .ok (.dup, 1) := by decide +kernel
theorem dX3_needCue_16 : decode cX3_needCue 16 = .ok (.ldc 218, 2) := by decide +kernel
theorem dX3_needCue_18 : decode cX3_needCue 18 = .ok (.invokespecial 216, 3) := by decide +kernel
theorem dX3_needCue_21 : decode cX3_needCue 21 = .ok (.athrow, 1) := by decide +kernel
theorem dX3_needCue_22 : decode cX3_needCue 22 = .ok (.return_, 1) := by decide +kernel
theorem dX3_needLampKind_0 : decode cX3_needLampKind 0 = .ok (.iload_n 0, 1) := by decide +kernel
theorem dX3_needLampKind_1 : decode cX3_needLampKind 1 = .ok (.iconst 1, 1) := by decide +kernel
theorem dX3_needLampKind_2 : decode cX3_needLampKind 2 = .ok (.if_icmp .lt 9, 3) := by decide +kernel
theorem dX3_needLampKind_5 : decode cX3_needLampKind 5 = .ok (.iload_n 0, 1) := by decide +kernel
theorem dX3_needLampKind_6 : decode cX3_needLampKind 6 = .ok (.bipush 20, 2) := by decide +kernel
theorem dX3_needLampKind_8 : decode cX3_needLampKind 8 = .ok (.if_icmp .le 13, 3) := by decide +kernel
theorem dX3_needLampKind_11 : decode cX3_needLampKind 11 = .ok (.new 147, 3) := by decide +kernel
theorem dX3_needLampKind_14 : decode cX3_needLampKind 14 = .ok (.dup, 1) := by decide +kernel
theorem dX3_needLampKind_15 : decode cX3_needLampKind 15 = .ok (.ldc 220, 2) := by decide +kernel
theorem dX3_needLampKind_17 : decode cX3_needLampKind 17 = .ok (.invokespecial 151, 3) := by decide +kernel
theorem dX3_needLampKind_20 : decode cX3_needLampKind 20 = .ok (.athrow, 1) := by decide +kernel
theorem dX3_needLampKind_21 : decode cX3_needLampKind 21 = .ok (.iload_n 1, 1) := by decide +kernel
theorem dX3_needLampKind_22 : decode cX3_needLampKind 22 = .ok (.ifCond .lt 9, 3) := by decide +kernel
theorem dX3_needLampKind_25 : decode cX3_needLampKind 25 = .ok (.iload_n 1, 1) := by decide +kernel
theorem dX3_needLampKind_26 : decode cX3_needLampKind 26 = .ok (.bipush 7, 2) := by decide +kernel
theorem dX3_needLampKind_28 : decode cX3_needLampKind 28 = .ok (.if_icmp .le 13, 3) := by decide +kernel
theorem dX3_needLampKind_31 : decode cX3_needLampKind 31 = .ok (.new 147, 3) := by decide +kernel
theorem dX3_needLampKind_34 : decode cX3_needLampKind 34 = .ok (.dup, 1) := by decide +kernel
theorem dX3_needLampKind_35 : decode cX3_needLampKind 35 = .ok (.ldc 222, 2) := by decide +kernel
theorem dX3_needLampKind_37 : decode cX3_needLampKind 37 = .ok (.invokespecial 151, 3) := by decide +kernel
theorem dX3_needLampKind_40 : decode cX3_needLampKind 40 = .ok (.athrow, 1) := by decide +kernel
theorem dX3_needLampKind_41 : decode cX3_needLampKind 41 = .ok (.return_, 1) := by decide +kernel
theorem dX3_isNight_0 : decode cX3_isNight 0 = .ok (.iload_n 0, 1) := by decide +kernel
theorem dX3_isNight_1 : decode cX3_isNight 1 = .ok (.ifCond .lt 12, 3) := by decide +kernel
theorem dX3_isNight_4 : decode cX3_isNight 4 = .ok (.iload_n 0, 1) := by decide +kernel
theorem dX3_isNight_5 : decode cX3_isNight 5 = .ok (.iconst 4, 1) := by decide +kernel
theorem dX3_isNight_6 : decode cX3_isNight 6 = .ok (.if_icmp .ge 7, 3) := by decide +kernel
theorem dX3_isNight_9 : decode cX3_isNight 9 = .ok (.iconst 1, 1) := by decide +kernel
theorem dX3_isNight_10 : decode cX3_isNight 10 = .ok (.goto 4, 3) := by decide +kernel
theorem dX3_isNight_13 : decode cX3_isNight 13 = .ok (.iconst 0, 1) := by decide +kernel
theorem dX3_isNight_14 : decode cX3_isNight 14 = .ok (.ireturn, 1) := by decide +kernel
theorem dX3_isChannel_0 : decode cX3_isChannel 0 = .ok (.iload_n 0, 1) := by decide +kernel
theorem dX3_isChannel_1 : decode cX3_isChannel 1 = .ok (.ifCond .lt 13, 3) := by decide +kernel
theorem dX3_isChannel_4 : decode cX3_isChannel 4 = .ok (.iload_n 0, 1) := by decide +kernel
theorem dX3_isChannel_5 : decode cX3_isChannel 5 = .ok (.bipush 12, 2) := by decide +kernel
theorem dX3_isChannel_7 : decode cX3_isChannel 7 = .ok (.if_icmp .ge 7, 3) := by decide +kernel
theorem dX3_isChannel_10 : decode cX3_isChannel 10 = .ok (.iconst 1, 1) := by decide +kernel
theorem dX3_isChannel_11 : decode cX3_isChannel 11 = .ok (.goto 4, 3) := by decide +kernel
theorem dX3_isChannel_14 : decode cX3_isChannel 14 = .ok (.iconst 0, 1) := by decide +kernel
theorem dX3_isChannel_15 : decode cX3_isChannel 15 = .ok (.ireturn, 1) := by decide +kernel
set_option maxRecDepth 20000 in
theorem ggX3_needNight_X3_isNight : GoodIn wsX3_needNight wsX3_isNight := goodIn_r _ [6] (by decide +kernel) (by decide +kernel)
set_option maxRecDepth 20000 in
theorem gX3_needNight_X3_isNight : GoodIn wsX3_needNight (va_wsS RX3 224 yX3_isNight wsX3_isNight) := goodIn_app (goodIn_of _ (by decide +kernel)) ggX3_needNight_X3_isNight
theorem dX3_needNight_0 : decode cX3_needNight 0 = .ok (.iload_n 0, 1) := by decide +kernel
theorem dX3_needNight_1 : decode cX3_needNight 1 = .ok (.invokestatic 224, 3) := by decide +kernel
theorem dX3_needNight_4 : decode cX3_needNight 4 = .ok (.ifCond .ne 13, 3) := by decide +kernel
theorem dX3_needNight_7 : decode cX3_needNight 7 = .ok (.new 147, 3) := by decide +kernel
theorem dX3_needNight_10 : decode cX3_needNight 10 = .ok (.dup, 1) := by decide +kernel
theorem dX3_needNight_11 : decode cX3_needNight 11 = .ok (.ldc 227, 2) := by decide +kernel
theorem dX3_needNight_13 : decode cX3_needNight 13 = .ok (.invokespecial 151, 3) := by decide +kernel
theorem dX3_needNight_16 : decode cX3_needNight 16 = .ok (.athrow, 1) := by decide +kernel
theorem dX3_needNight_17 : decode cX3_needNight 17 = .ok (.return_, 1) := by decide +kernel
set_option maxRecDepth 20000 in
theorem ggX3_needChannel_X3_isChannel : GoodIn wsX3_needChannel wsX3_isChannel := goodIn_r _ [6] (by decide +kernel) (by decide +kernel)
set_option maxRecDepth 20000 in
theorem gX3_needChannel_X3_isChannel : GoodIn wsX3_needChannel (va_wsS RX3 182 yX3_isChannel wsX3_isChannel) := goodIn_app (goodIn_of _ (by decide +kernel)) ggX3_needChannel_X3_isChannel
theorem dX3_needChannel_0 : decode cX3_needChannel 0 = .ok (.iload_n 0, 1) := by decide +kernel
theorem dX3_needChannel_1 : decode cX3_needChannel 1 = .ok (.invokestatic 182, 3) := by decide +kernel
theorem dX3_needChannel_4 : decode cX3_needChannel 4 = .ok (.ifCond .ne 13, 3) := by decide +kernel
theorem dX3_needChannel_7 : decode cX3_needChannel 7 = .ok (.new 147, 3) := by decide +kernel
theorem dX3_needChannel_10 : decode cX3_needChannel 10 = .ok (.dup, 1) := by decide +kernel
theorem dX3_needChannel_11 : decode cX3_needChannel 11 = .ok (.ldc 229, 2) := by decide +kernel
theorem dX3_needChannel_13 : decode cX3_needChannel 13 = .ok (.invokespecial 151, 3) := by decide +kernel
theorem dX3_needChannel_16 : decode cX3_needChannel 16 = .ok (.athrow, 1) := by decide +kernel
theorem dX3_needChannel_17 : decode cX3_needChannel 17 = .ok (.return_, 1) := by decide +kernel
set_option maxRecDepth 20000 in
theorem ggX3_needChannelOrNone_X3_needChannel : GoodIn wsX3_needChannelOrNone wsX3_needChannel := goodIn_ca (goodIn_r _ [4, 5, 6, 7, 8, 3, 9] (by decide +kernel) (by decide +kernel)) (goodIn_sub (fun _ h => List.mem_cons_of_mem _ (List.mem_append_right _ h)) (by decide +kernel))
set_option maxRecDepth 20000 in
theorem gX3_needChannelOrNone_X3_needChannel : GoodIn wsX3_needChannelOrNone (va_wsS RX3 95 yX3_needChannel wsX3_needChannel) := goodIn_app (goodIn_of _ (by decide +kernel)) ggX3_needChannelOrNone_X3_needChannel
theorem dX3_needChannelOrNone_0 : decode cX3_needChannelOrNone 0 = .ok (.iload_n 0, 1) := by decide +kernel
theorem dX3_needChannelOrNone_1 : decode cX3_needChannelOrNone 1 = .ok (.iconst (-1), 1) := by decide +kernel
theorem dX3_needChannelOrNone_2 : decode cX3_needChannelOrNone 2 = .ok (.if_icmp .eq 7, 3) := by decide +kernel
theorem dX3_needChannelOrNone_5 : decode cX3_needChannelOrNone 5 = .ok (.iload_n 0, 1) := by decide +kernel
theorem dX3_needChannelOrNone_6 : decode cX3_needChannelOrNone 6 = .ok (.invokestatic 95, 3) := by decide +kernel
theorem dX3_needChannelOrNone_9 : decode cX3_needChannelOrNone 9 = .ok (.return_, 1) := by decide +kernel
theorem dX3_needList_0 : decode cX3_needList 0 = .ok (.iload_n 0, 1) := by decide +kernel
theorem dX3_needList_1 : decode cX3_needList 1 = .ok (.ifCond .lt 8, 3) := by decide +kernel
theorem dX3_needList_4 : decode cX3_needList 4 = .ok (.iload_n 0, 1) := by decide +kernel
theorem dX3_needList_5 : decode cX3_needList 5 = .ok (.iconst 2, 1) := by decide +kernel
theorem dX3_needList_6 : decode cX3_needList 6 = .ok (.if_icmp .lt 13, 3) := by decide +kernel
theorem dX3_needList_9 : decode cX3_needList 9 = .ok (.new 147, 3) := by decide +kernel
theorem dX3_needList_12 : decode cX3_needList 12 = .ok (.dup, 1) := by decide +kernel
theorem dX3_needList_13 : decode cX3_needList 13 = .ok (.ldc 231, 2) := by decide +kernel
theorem dX3_needList_15 : decode cX3_needList 15 = .ok (.invokespecial 151, 3) := by decide +kernel
theorem dX3_needList_18 : decode cX3_needList 18 = .ok (.athrow, 1) := by decide +kernel
theorem dX3_needList_19 : decode cX3_needList 19 = .ok (.return_, 1) := by decide +kernel
theorem dX3_needTenths_0 : decode cX3_needTenths 0 = .ok (.iload_n 0, 1) := by decide +kernel
theorem dX3_needTenths_1 : decode cX3_needTenths 1 = .ok (.ifCond .lt 9, 3) := by decide +kernel
theorem dX3_needTenths_4 : decode cX3_needTenths 4 = .ok (.iload_n 0, 1) := by decide +kernel
theorem dX3_needTenths_5 : decode cX3_needTenths 5 = .ok (.bipush 100, 2) := by decide +kernel
theorem dX3_needTenths_7 : decode cX3_needTenths 7 = .ok (.if_icmp .le 13, 3) := by decide +kernel
theorem dX3_needTenths_10 : decode cX3_needTenths 10 = .ok (.new 147, 3) := by decide +kernel
theorem dX3_needTenths_13 : decode cX3_needTenths 13 = .ok (.dup, 1) := by decide +kernel
theorem dX3_needTenths_14 : decode cX3_needTenths 14 = .ok (.ldc 233, 2) := by decide +kernel
theorem dX3_needTenths_16 : decode cX3_needTenths 16 = .ok (.invokespecial 151, 3) := by decide +kernel
theorem dX3_needTenths_19 : decode cX3_needTenths 19 = .ok (.athrow, 1) := by decide +kernel
theorem dX3_needTenths_20 : decode cX3_needTenths 20 = .ok (.return_, 1) := by decide +kernel
theorem dX3_needLevelOrNone_0 : decode cX3_needLevelOrNone 0 = .ok (.iload_n 0, 1) := by decide +kernel
theorem dX3_needLevelOrNone_1 : decode cX3_needLevelOrNone 1 = .ok (.iconst (-1), 1) := by decide +kernel
theorem dX3_needLevelOrNone_2 : decode cX3_needLevelOrNone 2 = .ok (.if_icmp .eq 23, 3) := by decide +kernel
theorem dX3_needLevelOrNone_5 : decode cX3_needLevelOrNone 5 = .ok (.iload_n 0, 1) := by decide +kernel
theorem dX3_needLevelOrNone_6 : decode cX3_needLevelOrNone 6 = .ok (.ifCond .lt 9, 3) := by decide +kernel
theorem dX3_needLevelOrNone_9 : decode cX3_needLevelOrNone 9 = .ok (.iload_n 0, 1) := by decide +kernel
theorem dX3_needLevelOrNone_10 : decode cX3_needLevelOrNone 10 = .ok (.bipush 100, 2) := by decide +kernel
theorem dX3_needLevelOrNone_12 : decode cX3_needLevelOrNone 12 = .ok (.if_icmp .le 13, 3) := by decide +kernel
theorem dX3_needLevelOrNone_15 : decode cX3_needLevelOrNone 15 = .ok (.new 147, 3) := by decide +kernel
theorem dX3_needLevelOrNone_18 : decode cX3_needLevelOrNone 18 = .ok (.dup, 1) := by decide +kernel
theorem dX3_needLevelOrNone_19 : decode cX3_needLevelOrNone 19 = .ok (.ldc 235, 2) := by decide +kernel
theorem dX3_needLevelOrNone_21 : decode cX3_needLevelOrNone 21 = .ok (.invokespecial 151, 3) := by decide +kernel
theorem dX3_needLevelOrNone_24 : decode cX3_needLevelOrNone 24 = .ok (.athrow, 1) := by decide +kernel
theorem dX3_needLevelOrNone_25 : decode cX3_needLevelOrNone 25 = .ok (.return_, 1) := by decide +kernel
theorem dX4_init_0 : decode cX4_init 0 = .ok (.aload_n 0, 1) := by decide +kernel
theorem dX4_init_1 : decode cX4_init 1 = .ok (.invokespecial 1, 3) := by decide +kernel
theorem dX4_init_4 : decode cX4_init 4 = .ok (.aload_n 0, 1) := by decide +kernel
theorem dX4_init_5 : decode cX4_init 5 = .ok (.bipush 20, 2) := by decide +kernel
theorem dX4_init_7 : decode cX4_init 7 = .ok (.newarray .int, 2) := by decide +kernel
theorem dX4_init_9 : decode cX4_init 9 = .ok (.putfield 7, 3) := by decide +kernel
theorem dX4_init_12 : decode cX4_init 12 = .ok (.aload_n 0, 1) := by decide +kernel
theorem dX4_init_13 : decode cX4_init 13 = .ok (.bipush 20, 2) := by decide +kernel
theorem dX4_init_15 : decode cX4_init 15 = .ok (.newarray .int, 2) := by decide +kernel
theorem dX4_init_17 : decode cX4_init 17 = .ok (.putfield 13, 3) := by decide +kernel
theorem dX4_init_20 : decode cX4_init 20 = .ok (.aload_n 0, 1) := by decide +kernel
theorem dX4_init_21 : decode cX4_init 21 = .ok (.bipush 80, 2) := by decide +kernel
theorem dX4_init_23 : decode cX4_init 23 = .ok (.newarray .int, 2) := by decide +kernel
theorem dX4_init_25 : decode cX4_init 25 = .ok (.putfield 16, 3) := by decide +kernel
theorem dX4_init_28 : decode cX4_init 28 = .ok (.aload_n 0, 1) := by decide +kernel
theorem dX4_init_29 : decode cX4_init 29 = .ok (.bipush 12, 2) := by decide +kernel
theorem dX4_init_31 : decode cX4_init 31 = .ok (.newarray .int, 2) := by decide +kernel
theorem dX4_init_33 : decode cX4_init 33 = .ok (.putfield 19, 3) := by decide +kernel
theorem dX4_init_36 : decode cX4_init 36 = .ok (.aload_n 0, 1) := by decide +kernel
theorem dX4_init_37 : decode cX4_init 37 = .ok (.bipush 12, 2) := by decide +kernel
theorem dX4_init_39 : decode cX4_init 39 = .ok (.newarray .int, 2) := by decide +kernel
theorem dX4_init_41 : decode cX4_init 41 = .ok (.putfield 22, 3) := by decide +kernel
theorem dX4_init_44 : decode cX4_init 44 = .ok (.aload_n 0, 1) := by decide +kernel
theorem dX4_init_45 : decode cX4_init 45 = .ok (.iconst 2, 1) := by decide +kernel
theorem dX4_init_46 : decode cX4_init 46 = .ok (.newarray .int, 2) := by decide +kernel
theorem dX4_init_48 : decode cX4_init 48 = .ok (.putfield 25, 3) := by decide +kernel
theorem dX4_init_51 : decode cX4_init 51 = .ok (.aload_n 0, 1) := by decide +kernel
theorem dX4_init_52 : decode cX4_init 52 = .ok (.bipush 20, 2) := by decide +kernel
theorem dX4_init_54 : decode cX4_init 54 = .ok (.newarray .int, 2) := by decide +kernel
theorem dX4_init_56 : decode cX4_init 56 = .ok (.putfield 28, 3) := by decide +kernel
theorem dX4_init_59 : decode cX4_init 59 = .ok (.aload_n 0, 1) := by decide +kernel
theorem dX4_init_60 : decode cX4_init 60 = .ok (.bipush 20, 2) := by decide +kernel
theorem dX4_init_62 : decode cX4_init 62 = .ok (.newarray .int, 2) := by decide +kernel
theorem dX4_init_64 : decode cX4_init 64 = .ok (.putfield 31, 3) := by decide +kernel
theorem dX4_init_67 : decode cX4_init 67 = .ok (.aload_n 0, 1) := by decide +kernel
theorem dX4_init_68 : decode cX4_init 68 = .ok (.bipush 20, 2) := by decide +kernel
theorem dX4_init_70 : decode cX4_init 70 = .ok (.newarray .int, 2) := by decide +kernel
theorem dX4_init_72 : decode cX4_init 72 = .ok (.putfield 34, 3) := by decide +kernel
theorem dX4_init_75 : decode cX4_init 75 = .ok (.aload_n 0, 1) := by decide +kernel
theorem dX4_init_76 : decode cX4_init 76 = .ok (.sipush 240, 3) := by decide +kernel
theorem dX4_init_79 : decode cX4_init 79 = .ok (.newarray .int, 2) := by decide +kernel
theorem dX4_init_81 : decode cX4_init 81 = .ok (.putfield 37, 3) := by decide +kernel
theorem dX4_init_84 : decode cX4_init 84 = .ok (.aload_n 0, 1) := by decide +kernel
theorem dX4_init_85 : decode cX4_init 85 = .ok (.iconst 2, 1) := by decide +kernel
theorem dX4_init_86 : decode cX4_init 86 = .ok (.newarray .int, 2) := by decide +kernel
theorem dX4_init_88 : decode cX4_init 88 = .ok (.putfield 40, 3) := by decide +kernel
theorem dX4_init_91 : decode cX4_init 91 = .ok (.aload_n 0, 1) := by decide +kernel
theorem dX4_init_92 : decode cX4_init 92 = .ok (.iconst 2, 1) := by decide +kernel
theorem dX4_init_93 : decode cX4_init 93 = .ok (.newarray .int, 2) := by decide +kernel
theorem dX4_init_95 : decode cX4_init 95 = .ok (.putfield 43, 3) := by decide +kernel
theorem dX4_init_98 : decode cX4_init 98 = .ok (.aload_n 0, 1) := by decide +kernel
theorem dX4_init_99 : decode cX4_init 99 = .ok (.bipush 24, 2) := by decide +kernel
theorem dX4_init_101 : decode cX4_init 101 = .ok (.newarray .int, 2) := by decide +kernel
theorem dX4_init_103 : decode cX4_init 103 = .ok (.putfield 46, 3) := by decide +kernel
theorem dX4_init_106 : decode cX4_init 106 = .ok (.aload_n 0, 1) := by decide +kernel
theorem dX4_init_107 : decode cX4_init 107 = .ok (.bipush 24, 2) := by decide +kernel
theorem dX4_init_109 : decode cX4_init 109 = .ok (.newarray .int, 2) := by decide +kernel
theorem dX4_init_111 : decode cX4_init 111 = .ok (.putfield 49, 3) := by decide +kernel
theorem dX4_init_114 : decode cX4_init 114 = .ok (.aload_n 0, 1) := by decide +kernel
theorem dX4_init_115 : decode cX4_init 115 = .ok (.bipush 20, 2) := by decide +kernel
theorem dX4_init_117 : decode cX4_init 117 = .ok (.newarray .int, 2) := by decide +kernel
theorem dX4_init_119 : decode cX4_init 119 = .ok (.putfield 52, 3) := by decide +kernel
theorem dX4_init_122 : decode cX4_init 122 = .ok (.aload_n 0, 1) := by decide +kernel
theorem dX4_init_123 : decode cX4_init 123 = .ok (.bipush 20, 2) := by decide +kernel
theorem dX4_init_125 : decode cX4_init 125 = .ok (.newarray .int, 2) := by decide +kernel
theorem dX4_init_127 : decode cX4_init 127 = .ok (.putfield 55, 3) := by decide +kernel
theorem dX4_init_130 : decode cX4_init 130 = .ok (.aload_n 0, 1) := by decide +kernel
theorem dX4_init_131 : decode cX4_init 131 = .ok (.bipush 20, 2) := by decide +kernel
theorem dX4_init_133 : decode cX4_init 133 = .ok (.newarray .int, 2) := by decide +kernel
theorem dX4_init_135 : decode cX4_init 135 = .ok (.putfield 58, 3) := by decide +kernel
theorem dX4_init_138 : decode cX4_init 138 = .ok (.aload_n 0, 1) := by decide +kernel
theorem dX4_init_139 : decode cX4_init 139 = .ok (.bipush 20, 2) := by decide +kernel
theorem dX4_init_141 : decode cX4_init 141 = .ok (.newarray .int, 2) := by decide +kernel
theorem dX4_init_143 : decode cX4_init 143 = .ok (.putfield 61, 3) := by decide +kernel
theorem dX4_init_146 : decode cX4_init 146 = .ok (.aload_n 0, 1) := by decide +kernel
theorem dX4_init_147 : decode cX4_init 147 = .ok (.getfield 40, 3) := by decide +kernel
theorem dX4_init_150 : decode cX4_init 150 = .ok (.iconst 0, 1) := by decide +kernel
theorem dX4_init_151 : decode cX4_init 151 = .ok (.iconst (-1), 1) := by decide +kernel
theorem dX4_init_152 : decode cX4_init 152 = .ok (.iastore, 1) := by decide +kernel
theorem dX4_init_153 : decode cX4_init 153 = .ok (.aload_n 0, 1) := by decide +kernel
theorem dX4_init_154 : decode cX4_init 154 = .ok (.getfield 40, 3) := by decide +kernel
theorem dX4_init_157 : decode cX4_init 157 = .ok (.iconst 1, 1) := by decide +kernel
theorem dX4_init_158 : decode cX4_init 158 = .ok (.iconst (-1), 1) := by decide +kernel
theorem dX4_init_159 : decode cX4_init 159 = .ok (.iastore, 1) := by decide +kernel
theorem dX4_init_160 : decode cX4_init 160 = .ok (.return_, 1) := by decide +kernel
theorem dX4_thrown_0 : decode cX4_thrown 0 = .ok (.aload_n 0, 1) := by decide +kernel
theorem dX4_thrown_1 : decode cX4_thrown 1 = .ok (.getfield 64, 3) := by decide +kernel
theorem dX4_thrown_4 : decode cX4_thrown 4 = .ok (.ireturn, 1) := by decide +kernel
theorem dX4_fails_0 : decode cX4_fails 0 = .ok (.aload_n 0, 1) := by decide +kernel
theorem dX4_fails_1 : decode cX4_fails 1 = .ok (.iload_n 1, 1) := by decide +kernel
theorem dX4_fails_2 : decode cX4_fails 2 = .ok (.putfield 64, 3) := by decide +kernel
theorem dX4_fails_5 : decode cX4_fails 5 = .ok (.iconst 0, 1) := by decide +kernel
theorem dX4_fails_6 : decode cX4_fails 6 = .ok (.ireturn, 1) := by decide +kernel
theorem dX4_in_0 : decode cX4_in 0 = .ok (.iload_n 0, 1) := by decide +kernel
theorem dX4_in_1 : decode cX4_in 1 = .ok (.iload_n 1, 1) := by decide +kernel
theorem dX4_in_2 : decode cX4_in 2 = .ok (.if_icmp .lt 12, 3) := by decide +kernel
theorem dX4_in_5 : decode cX4_in 5 = .ok (.iload_n 0, 1) := by decide +kernel
theorem dX4_in_6 : decode cX4_in 6 = .ok (.iload_n 2, 1) := by decide +kernel
theorem dX4_in_7 : decode cX4_in 7 = .ok (.if_icmp .gt 7, 3) := by decide +kernel
theorem dX4_in_10 : decode cX4_in 10 = .ok (.iconst 1, 1) := by decide +kernel
theorem dX4_in_11 : decode cX4_in 11 = .ok (.goto 4, 3) := by decide +kernel
theorem dX4_in_14 : decode cX4_in 14 = .ok (.iconst 0, 1) := by decide +kernel
theorem dX4_in_15 : decode cX4_in 15 = .ok (.ireturn, 1) := by decide +kernel
set_option maxRecDepth 20000 in
theorem ggX4_isList_X4_in : GoodIn wsX4_isList wsX4_in := goodIn_r _ [4] (by decide +kernel) (by decide +kernel)
set_option maxRecDepth 20000 in
theorem gX4_isList_X4_in : GoodIn wsX4_isList (va_wsS RX4 68 yX4_in wsX4_in) := goodIn_app (goodIn_of _ (by decide +kernel)) ggX4_isList_X4_in
theorem dX4_isList_0 : decode cX4_isList 0 = .ok (.iload_n 0, 1) := by decide +kernel
theorem dX4_isList_1 : decode cX4_isList 1 = .ok (.iconst 0, 1) := by decide +kernel
theorem dX4_isList_2 : decode cX4_isList 2 = .ok (.iconst 1, 1) := by decide +kernel
theorem dX4_isList_3 : decode cX4_isList 3 = .ok (.invokestatic 68, 3) := by decide +kernel
theorem dX4_isList_6 : decode cX4_isList 6 = .ok (.ireturn, 1) := by decide +kernel
set_option maxRecDepth 20000 in
theorem ggX4_isChannel_X4_in : GoodIn wsX4_isChannel wsX4_in := goodIn_r _ [4] (by decide +kernel) (by decide +kernel)
set_option maxRecDepth 20000 in
theorem gX4_isChannel_X4_in : GoodIn wsX4_isChannel (va_wsS RX4 68 yX4_in wsX4_in) := goodIn_app (goodIn_of _ (by decide +kernel)) ggX4_isChannel_X4_in
theorem dX4_isChannel_0 : decode cX4_isChannel 0 = .ok (.iload_n 0, 1) := by decide +kernel
theorem dX4_isChannel_1 : decode cX4_isChannel 1 = .ok (.iconst 0, 1) := by decide +kernel
theorem dX4_isChannel_2 : decode cX4_isChannel 2 = .ok (.bipush 11, 2) := by decide +kernel
theorem dX4_isChannel_4 : decode cX4_isChannel 4 = .ok (.invokestatic 68, 3) := by decide +kernel
theorem dX4_isChannel_7 : decode cX4_isChannel 7 = .ok (.ireturn, 1) := by decide +kernel
set_option maxRecDepth 20000 in
theorem ggX4_isNight_X4_in : GoodIn wsX4_isNight wsX4_in := goodIn_r _ [4] (by decide +kernel) (by decide +kernel)
set_option maxRecDepth 20000 in
theorem gX4_isNight_X4_in : GoodIn wsX4_isNight (va_wsS RX4 68 yX4_in wsX4_in) := goodIn_app (goodIn_of _ (by decide +kernel)) ggX4_isNight_X4_in
theorem dX4_isNight_0 : decode cX4_isNight 0 = .ok (.iload_n 0, 1) := by decide +kernel
theorem dX4_isNight_1 : decode cX4_isNight 1 = .ok (.iconst 0, 1) := by decide +kernel
theorem dX4_isNight_2 : decode cX4_isNight 2 = .ok (.iconst 3, 1) := by decide +kernel
theorem dX4_isNight_3 : decode cX4_isNight 3 = .ok (.invokestatic 68, 3) := by decide +kernel
theorem dX4_isNight_6 : decode cX4_isNight 6 = .ok (.ireturn, 1) := by decide +kernel
set_option maxRecDepth 20000 in
theorem ggX4_isMade_X4_in : GoodIn wsX4_isMade wsX4_in := goodIn_r _ [4] (by decide +kernel) (by decide +kernel)
set_option maxRecDepth 20000 in
theorem gX4_isMade_X4_in : GoodIn wsX4_isMade (va_wsS RX4 68 yX4_in wsX4_in) := goodIn_app (goodIn_of _ (by decide +kernel)) ggX4_isMade_X4_in
theorem dX4_isMade_0 : decode cX4_isMade 0 = .ok (.iload_n 0, 1) := by decide +kernel
theorem dX4_isMade_1 : decode cX4_isMade 1 = .ok (.iconst 1, 1) := by decide +kernel
theorem dX4_isMade_2 : decode cX4_isMade 2 = .ok (.bipush 20, 2) := by decide +kernel
theorem dX4_isMade_4 : decode cX4_isMade 4 = .ok (.invokestatic 68, 3) := by decide +kernel
theorem dX4_isMade_7 : decode cX4_isMade 7 = .ok (.ifCond .eq 17, 3) := by decide +kernel
theorem dX4_isMade_10 : decode cX4_isMade 10 = .ok (.iload_n 1, 1) := by decide +kernel
theorem dX4_isMade_11 : decode cX4_isMade 11 = .ok (.iconst 0, 1) := by decide +kernel
theorem dX4_isMade_12 : decode cX4_isMade 12 = .ok (.bipush 7, 2) := by decide +kernel
theorem dX4_isMade_14 : decode cX4_isMade 14 = .ok (.invokestatic 68, 3) := by decide +kernel
theorem dX4_isMade_17 : decode cX4_isMade 17 = .ok (.ifCond .eq 7, 3) := by decide +kernel
theorem dX4_isMade_20 : decode cX4_isMade 20 = .ok (.iconst 1, 1) := by decide +kernel
theorem dX4_isMade_21 : decode cX4_isMade 21 = .ok (.goto 4, 3) := by decide +kernel
theorem dX4_isMade_24 : decode cX4_isMade 24 = .ok (.iconst 0, 1) := by decide +kernel
theorem dX4_isMade_25 : decode cX4_isMade 25 = .ok (.ireturn, 1) := by decide +kernel
set_option maxRecDepth 20000 in
theorem ggX4_isLamp_X4_in : GoodIn wsX4_isLamp wsX4_in := goodIn_r _ [5] (by decide +kernel) (by decide +kernel)
set_option maxRecDepth 20000 in
theorem gX4_isLamp_X4_in : GoodIn wsX4_isLamp (va_wsS RX4 68 yX4_in wsX4_in) := goodIn_app (goodIn_of _ (by decide +kernel)) ggX4_isLamp_X4_in
theorem dX4_isLamp_0 : decode cX4_isLamp 0 = .ok (.iload_n 1, 1) := by decide +kernel
theorem dX4_isLamp_1 : decode cX4_isLamp 1 = .ok (.iconst 0, 1) := by decide +kernel
theorem dX4_isLamp_2 : decode cX4_isLamp 2 = .ok (.aload_n 0, 1) := by decide +kernel
theorem dX4_isLamp_3 : decode cX4_isLamp 3 = .ok (.getfield 72, 3) := by decide +kernel
theorem dX4_isLamp_6 : decode cX4_isLamp 6 = .ok (.iconst 1, 1) := by decide +kernel
theorem dX4_isLamp_7 : decode cX4_isLamp 7 = .ok (.isub, 1) := by decide +kernel
theorem dX4_isLamp_8 : decode cX4_isLamp 8 = .ok (.invokestatic 68, 3) := by decide +kernel
theorem dX4_isLamp_11 : decode cX4_isLamp 11 = .ok (.ireturn, 1) := by decide +kernel
theorem dX4_keeps_0 : decode cX4_keeps 0 = .ok (.aload_n 0, 1) := by decide +kernel
theorem dX4_keeps_1 : decode cX4_keeps 1 = .ok (.getfield 75, 3) := by decide +kernel
theorem dX4_keeps_4 : decode cX4_keeps 4 = .ok (.bipush 20, 2) := by decide +kernel
theorem dX4_keeps_6 : decode cX4_keeps 6 = .ok (.if_icmp .ne 93, 3) := by decide +kernel
theorem dX4_keeps_9 : decode cX4_keeps 9 = .ok (.iconst 1, 1) := by decide +kernel
theorem dX4_keeps_10 : decode cX4_keeps 10 = .ok (.istore 5, 2) := by decide +kernel
theorem dX4_keeps_12 : decode cX4_keeps 12 = .ok (.iload 5, 2) := by decide +kernel
theorem dX4_keeps_14 : decode cX4_keeps 14 = .ok (.bipush 20, 2) := by decide +kernel
theorem dX4_keeps_16 : decode cX4_keeps 16 = .ok (.if_icmp .ge 73, 3) := by decide +kernel
theorem dX4_keeps_19 : decode cX4_keeps 19 = .ok (.aload_n 0, 1) := by decide +kernel
theorem dX4_keeps_20 : decode cX4_keeps 20 = .ok (.getfield 52, 3) := by decide +kernel
theorem dX4_keeps_23 : decode cX4_keeps 23 = .ok (.iload 5, 2) := by decide +kernel
theorem dX4_keeps_25 : decode cX4_keeps 25 = .ok (.iconst 1, 1) := by decide +kernel
theorem dX4_keeps_26 : decode cX4_keeps 26 = .ok (.isub, 1) := by decide +kernel
theorem dX4_keeps_27 : decode cX4_keeps 27 = .ok (.aload_n 0, 1) := by decide +kernel
theorem dX4_keeps_28 : decode cX4_keeps 28 = .ok (.getfield 52, 3) := by decide +kernel
theorem dX4_keeps_31 : decode cX4_keeps 31 = .ok (.iload 5, 2) := by decide +kernel
theorem dX4_keeps_33 : decode cX4_keeps 33 = .ok (.iaload, 1) := by decide +kernel
theorem dX4_keeps_34 : decode cX4_keeps 34 = .ok (.iastore, 1) := by decide +kernel
theorem dX4_keeps_35 : decode cX4_keeps 35 = .ok (.aload_n 0, 1) := by decide +kernel
theorem dX4_keeps_36 : decode cX4_keeps 36 = .ok (.getfield 55, 3) := by decide +kernel
theorem dX4_keeps_39 : decode cX4_keeps 39 = .ok (.iload 5, 2) := by decide +kernel
theorem dX4_keeps_41 : decode cX4_keeps 41 = .ok (.iconst 1, 1) := by decide +kernel
theorem dX4_keeps_42 : decode cX4_keeps 42 = .ok (.isub, 1) := by decide +kernel
theorem dX4_keeps_43 : decode cX4_keeps 43 = .ok (.aload_n 0, 1) := by decide +kernel
theorem dX4_keeps_44 : decode cX4_keeps 44 = .ok (.getfield 55, 3) := by decide +kernel
theorem dX4_keeps_47 : decode cX4_keeps 47 = .ok (.iload 5, 2) := by decide +kernel
theorem dX4_keeps_49 : decode cX4_keeps 49 = .ok (.iaload, 1) := by decide +kernel
theorem dX4_keeps_50 : decode cX4_keeps 50 = .ok (.iastore, 1) := by decide +kernel
theorem dX4_keeps_51 : decode cX4_keeps 51 = .ok (.aload_n 0, 1) := by decide +kernel
theorem dX4_keeps_52 : decode cX4_keeps 52 = .ok (.getfield 58, 3) := by decide +kernel
theorem dX4_keeps_55 : decode cX4_keeps 55 = .ok (.iload 5, 2) := by decide +kernel
theorem dX4_keeps_57 : decode cX4_keeps 57 = .ok (.iconst 1, 1) := by decide +kernel
theorem dX4_keeps_58 : decode cX4_keeps 58 = .ok (.isub, 1) := by decide +kernel
theorem dX4_keeps_59 : decode cX4_keeps 59 = .ok (.aload_n 0, 1) := by decide +kernel
theorem dX4_keeps_60 : decode cX4_keeps 60 = .ok (.getfield 58, 3) := by decide +kernel
theorem dX4_keeps_63 : decode cX4_keeps 63 = .ok (.iload 5, 2) := by decide +kernel
theorem dX4_keeps_65 : decode cX4_keeps 65 = .ok (.iaload, 1) := by decide +kernel
theorem dX4_keeps_66 : decode cX4_keeps 66 = .ok (.iastore, 1) := by decide +kernel
theorem dX4_keeps_67 : decode cX4_keeps 67 = .ok (.aload_n 0, 1) := by decide +kernel
theorem dX4_keeps_68 : decode cX4_keeps 68 = .ok (.getfield 61, 3) := by decide +kernel
theorem dX4_keeps_71 : decode cX4_keeps 71 = .ok (.iload 5, 2) := by decide +kernel
theorem dX4_keeps_73 : decode cX4_keeps 73 = .ok (.iconst 1, 1) := by decide +kernel
theorem dX4_keeps_74 : decode cX4_keeps 74 = .ok (.isub, 1) := by decide +kernel
theorem dX4_keeps_75 : decode cX4_keeps 75 = .ok (.aload_n 0, 1) := by decide +kernel
theorem dX4_keeps_76 : decode cX4_keeps 76 = .ok (.getfield 61, 3) := by decide +kernel
theorem dX4_keeps_79 : decode cX4_keeps 79 = .ok (.iload 5, 2) := by decide +kernel
theorem dX4_keeps_81 : decode cX4_keeps 81 = .ok (.iaload, 1) := by decide +kernel
theorem dX4_keeps_82 : decode cX4_keeps 82 = .ok (.iastore, 1) := by decide +kernel
theorem dX4_keeps_83 : decode cX4_keeps 83 = .ok (.iinc 5 1, 3) := by decide +kernel
theorem dX4_keeps_86 : decode cX4_keeps 86 = .ok (.goto (-74), 3) := by decide +kernel
theorem dX4_keeps_89 : decode cX4_keeps 89 = .ok (.aload_n 0, 1) := by decide +kernel
theorem dX4_keeps_90 : decode cX4_keeps 90 = .ok (.dup, 1) := by decide +kernel
theorem dX4_keeps_91 : decode cX4_keeps 91 = .ok (.getfield 75, 3) := by decide +kernel
theorem dX4_keeps_94 : decode cX4_keeps 94 = .ok (.iconst 1, 1) := by decide +kernel
theorem dX4_keeps_95 : decode cX4_keeps 95 = .ok (.isub, 1) := by decide +kernel
theorem dX4_keeps_96 : decode cX4_keeps 96 = .ok (.putfield 75, 3) := by decide +kernel
theorem dX4_keeps_99 : decode cX4_keeps 99 = .ok (.aload_n 0, 1) := by decide +kernel
theorem dX4_keeps_100 : decode cX4_keeps 100 = .ok (.getfield 52, 3) := by decide +kernel
theorem dX4_keeps_103 : decode cX4_keeps 103 = .ok (.aload_n 0, 1) := by decide +kernel
theorem dX4_keeps_104 : decode cX4_keeps 104 = .ok (.getfield 75, 3) := by decide +kernel
theorem dX4_keeps_107 : decode cX4_keeps 107 = .ok (.iload_n 1, 1) := by decide +kernel
theorem dX4_keeps_108 : decode cX4_keeps 108 = .ok (.iastore, 1) := by decide +kernel
theorem dX4_keeps_109 : decode cX4_keeps 109 = .ok (.aload_n 0, 1) := by decide +kernel
theorem dX4_keeps_110 : decode cX4_keeps 110 = .ok (.getfield 55, 3) := by decide +kernel
theorem dX4_keeps_113 : decode cX4_keeps 113 = .ok (.aload_n 0, 1) := by decide +kernel
theorem dX4_keeps_114 : decode cX4_keeps 114 = .ok (.getfield 75, 3) := by decide +kernel
theorem dX4_keeps_117 : decode cX4_keeps 117 = .ok (.iload_n 2, 1) := by decide +kernel
theorem dX4_keeps_118 : decode cX4_keeps 118 = .ok (.iastore, 1) := by decide +kernel
theorem dX4_keeps_119 : decode cX4_keeps 119 = .ok (.aload_n 0, 1) := by decide +kernel
theorem dX4_keeps_120 : decode cX4_keeps 120 = .ok (.getfield 58, 3) := by decide +kernel
theorem dX4_keeps_123 : decode cX4_keeps 123 = .ok (.aload_n 0, 1) := by decide +kernel
theorem dX4_keeps_124 : decode cX4_keeps 124 = .ok (.getfield 75, 3) := by decide +kernel
theorem dX4_keeps_127 : decode cX4_keeps 127 = .ok (.iload_n 3, 1) := by decide +kernel
theorem dX4_keeps_128 : decode cX4_keeps 128 = .ok (.iastore, 1) := by decide +kernel
theorem dX4_keeps_129 : decode cX4_keeps 129 = .ok (.aload_n 0, 1) := by decide +kernel
theorem dX4_keeps_130 : decode cX4_keeps 130 = .ok (.getfield 61, 3) := by decide +kernel
theorem dX4_keeps_133 : decode cX4_keeps 133 = .ok (.aload_n 0, 1) := by decide +kernel
theorem dX4_keeps_134 : decode cX4_keeps 134 = .ok (.getfield 75, 3) := by decide +kernel
theorem dX4_keeps_137 : decode cX4_keeps 137 = .ok (.iload 4, 2) := by decide +kernel
theorem dX4_keeps_139 : decode cX4_keeps 139 = .ok (.iastore, 1) := by decide +kernel
theorem dX4_keeps_140 : decode cX4_keeps 140 = .ok (.aload_n 0, 1) := by decide +kernel
theorem dX4_keeps_141 : decode cX4_keeps 141 = .ok (.dup, 1) := by decide +kernel
theorem dX4_keeps_142 : decode cX4_keeps 142 = .ok (.getfield 75, 3) := by decide +kernel
theorem dX4_keeps_145 : decode cX4_keeps 145 = .ok (.iconst 1, 1) := by decide +kernel
theorem dX4_keeps_146 : decode cX4_keeps 146 = .ok (.iadd, 1) := by decide +kernel
theorem dX4_keeps_147 : decode cX4_keeps 147 = .ok (.putfield 75, 3) := by decide +kernel
theorem dX4_keeps_150 : decode cX4_keeps 150 = .ok (.return_, 1) := by decide +kernel
theorem dX4_undo_0 : decode cX4_undo 0 = .ok (.aload_n 0, 1) := by decide +kernel
theorem dX4_undo_1 : decode cX4_undo 1 = .ok (.aload_n 0, 1) := by decide +kernel
theorem dX4_undo_2 : decode cX4_undo 2 = .ok (.getfield 75, 3) := by decide +kernel
theorem dX4_undo_5 : decode cX4_undo 5 = .ok (.ifCond .ne 7, 3) := by decide +kernel
theorem dX4_undo_8 : decode cX4_undo 8 = .ok (.iconst 1, 1) := by decide +kernel
theorem dX4_undo_9 : decode cX4_undo 9 = .ok (.goto 4, 3) := by decide +kernel
theorem dX4_undo_12 : decode cX4_undo 12 = .ok (.iconst 0, 1) := by decide +kernel
theorem dX4_undo_13 : decode cX4_undo 13 = .ok (.putfield 64, 3) := by decide +kernel
theorem dX4_undo_16 : decode cX4_undo 16 = .ok (.aload_n 0, 1) := by decide +kernel
theorem dX4_undo_17 : decode cX4_undo 17 = .ok (.getfield 64, 3) := by decide +kernel
theorem dX4_undo_20 : decode cX4_undo 20 = .ok (.ifCond .le 5, 3) := by decide +kernel
theorem dX4_undo_23 : decode cX4_undo 23 = .ok (.iconst 0, 1) := by decide +kernel
theorem dX4_undo_24 : decode cX4_undo 24 = .ok (.ireturn, 1) := by decide +kernel
theorem dX4_undo_25 : decode cX4_undo 25 = .ok (.aload_n 0, 1) := by decide +kernel
theorem dX4_undo_26 : decode cX4_undo 26 = .ok (.dup, 1) := by decide +kernel
theorem dX4_undo_27 : decode cX4_undo 27 = .ok (.getfield 75, 3) := by decide +kernel
theorem dX4_undo_30 : decode cX4_undo 30 = .ok (.iconst 1, 1) := by decide +kernel
theorem dX4_undo_31 : decode cX4_undo 31 = .ok (.isub, 1) := by decide +kernel
theorem dX4_undo_32 : decode cX4_undo 32 = .ok (.putfield 75, 3) := by decide +kernel
theorem dX4_undo_35 : decode cX4_undo 35 = .ok (.aload_n 0, 1) := by decide +kernel
theorem dX4_undo_36 : decode cX4_undo 36 = .ok (.getfield 55, 3) := by decide +kernel
theorem dX4_undo_39 : decode cX4_undo 39 = .ok (.aload_n 0, 1) := by decide +kernel
theorem dX4_undo_40 : decode cX4_undo 40 = .ok (.getfield 75, 3) := by decide +kernel
theorem dX4_undo_43 : decode cX4_undo 43 = .ok (.iaload, 1) := by decide +kernel
theorem dX4_undo_44 : decode cX4_undo 44 = .ok (.istore_n 1, 1) := by decide +kernel
theorem dX4_undo_45 : decode cX4_undo 45 = .ok (.aload_n 0, 1) := by decide +kernel
theorem dX4_undo_46 : decode cX4_undo 46 = .ok (.getfield 52, 3) := by decide +kernel
theorem dX4_undo_49 : decode cX4_undo 49 = .ok (.aload_n 0, 1) := by decide +kernel
theorem dX4_undo_50 : decode cX4_undo 50 = .ok (.getfield 75, 3) := by decide +kernel
theorem dX4_undo_53 : decode cX4_undo 53 = .ok (.iaload, 1) := by decide +kernel
theorem dX4_undo_54 : decode cX4_undo 54 = .ok (.ifCond .ne 36, 3) := by decide +kernel
theorem dX4_undo_57 : decode cX4_undo 57 = .ok (.aload_n 0, 1) := by decide +kernel
theorem dX4_undo_58 : decode cX4_undo 58 = .ok (.getfield 7, 3) := by decide +kernel
theorem dX4_undo_61 : decode cX4_undo 61 = .ok (.iload_n 1, 1) := by decide +kernel
theorem dX4_undo_62 : decode cX4_undo 62 = .ok (.aload_n 0, 1) := by decide +kernel
theorem dX4_undo_63 : decode cX4_undo 63 = .ok (.getfield 58, 3) := by decide +kernel
theorem dX4_undo_66 : decode cX4_undo 66 = .ok (.aload_n 0, 1) := by decide +kernel
theorem dX4_undo_67 : decode cX4_undo 67 = .ok (.getfield 75, 3) := by decide +kernel
theorem dX4_undo_70 : decode cX4_undo 70 = .ok (.iaload, 1) := by decide +kernel
theorem dX4_undo_71 : decode cX4_undo 71 = .ok (.iastore, 1) := by decide +kernel
theorem dX4_undo_72 : decode cX4_undo 72 = .ok (.aload_n 0, 1) := by decide +kernel
theorem dX4_undo_73 : decode cX4_undo 73 = .ok (.getfield 13, 3) := by decide +kernel
theorem dX4_undo_76 : decode cX4_undo 76 = .ok (.iload_n 1, 1) := by decide +kernel
theorem dX4_undo_77 : decode cX4_undo 77 = .ok (.aload_n 0, 1) := by decide +kernel
theorem dX4_undo_78 : decode cX4_undo 78 = .ok (.getfield 61, 3) := by decide +kernel
theorem dX4_undo_81 : decode cX4_undo 81 = .ok (.aload_n 0, 1) := by decide +kernel
theorem dX4_undo_82 : decode cX4_undo 82 = .ok (.getfield 75, 3) := by decide +kernel
theorem dX4_undo_85 : decode cX4_undo 85 = .ok (.iaload, 1) := by decide +kernel
theorem dX4_undo_86 : decode cX4_undo 86 = .ok (.iastore, 1) := by decide +kernel
theorem dX4_undo_87 : decode cX4_undo 87 = .ok (.goto 49, 3) := by decide +kernel
theorem dX4_undo_90 : decode cX4_undo 90 = .ok (.aload_n 0, 1) := by decide +kernel
theorem dX4_undo_91 : decode cX4_undo 91 = .ok (.getfield 52, 3) := by decide +kernel
theorem dX4_undo_94 : decode cX4_undo 94 = .ok (.aload_n 0, 1) := by decide +kernel
theorem dX4_undo_95 : decode cX4_undo 95 = .ok (.getfield 75, 3) := by decide +kernel
theorem dX4_undo_98 : decode cX4_undo 98 = .ok (.iaload, 1) := by decide +kernel
theorem dX4_undo_99 : decode cX4_undo 99 = .ok (.iconst 1, 1) := by decide +kernel
theorem dX4_undo_100 : decode cX4_undo 100 = .ok (.if_icmp .ne 21, 3) := by decide +kernel
theorem dX4_undo_103 : decode cX4_undo 103 = .ok (.aload_n 0, 1) := by decide +kernel
theorem dX4_undo_104 : decode cX4_undo 104 = .ok (.getfield 16, 3) := by decide +kernel
theorem dX4_undo_107 : decode cX4_undo 107 = .ok (.iload_n 1, 1) := by decide +kernel
theorem dX4_undo_108 : decode cX4_undo 108 = .ok (.aload_n 0, 1) := by decide +kernel
theorem dX4_undo_109 : decode cX4_undo 109 = .ok (.getfield 58, 3) := by decide +kernel
theorem dX4_undo_112 : decode cX4_undo 112 = .ok (.aload_n 0, 1) := by decide +kernel
theorem dX4_undo_113 : decode cX4_undo 113 = .ok (.getfield 75, 3) := by decide +kernel
theorem dX4_undo_116 : decode cX4_undo 116 = .ok (.iaload, 1) := by decide +kernel
theorem dX4_undo_117 : decode cX4_undo 117 = .ok (.iastore, 1) := by decide +kernel
theorem dX4_undo_118 : decode cX4_undo 118 = .ok (.goto 18, 3) := by decide +kernel
theorem dX4_undo_121 : decode cX4_undo 121 = .ok (.aload_n 0, 1) := by decide +kernel
theorem dX4_undo_122 : decode cX4_undo 122 = .ok (.getfield 37, 3) := by decide +kernel
theorem dX4_undo_125 : decode cX4_undo 125 = .ok (.iload_n 1, 1) := by decide +kernel
theorem dX4_undo_126 : decode cX4_undo 126 = .ok (.aload_n 0, 1) := by decide +kernel
theorem dX4_undo_127 : decode cX4_undo 127 = .ok (.getfield 58, 3) := by decide +kernel
theorem dX4_undo_130 : decode cX4_undo 130 = .ok (.aload_n 0, 1) := by decide +kernel
theorem dX4_undo_131 : decode cX4_undo 131 = .ok (.getfield 75, 3) := by decide +kernel
theorem dX4_undo_134 : decode cX4_undo 134 = .ok (.iaload, 1) := by decide +kernel
theorem dX4_undo_135 : decode cX4_undo 135 = .ok (.iastore, 1) := by decide +kernel
theorem dX4_undo_136 : decode cX4_undo 136 = .ok (.aload_n 0, 1) := by decide +kernel
theorem dX4_undo_137 : decode cX4_undo 137 = .ok (.getfield 75, 3) := by decide +kernel
theorem dX4_undo_140 : decode cX4_undo 140 = .ok (.ireturn, 1) := by decide +kernel
set_option maxRecDepth 20000 in
theorem ggX4_addLamp_X4_isMade : GoodIn wsX4_addLamp wsX4_isMade := goodIn_r _ [8, 9, 10, 7, 11] (by decide +kernel) (by decide +kernel)
set_option maxRecDepth 20000 in
theorem gX4_addLamp_X4_isMade : GoodIn wsX4_addLamp (va_wsS RX4 78 yX4_isMade wsX4_isMade) := goodIn_app (goodIn_of _ (by decide +kernel)) ggX4_addLamp_X4_isMade
theorem dX4_addLamp_0 : decode cX4_addLamp 0 = .ok (.aload_n 0, 1) := by decide +kernel
theorem dX4_addLamp_1 : decode cX4_addLamp 1 = .ok (.iload_n 1, 1) := by decide +kernel
theorem dX4_addLamp_2 : decode cX4_addLamp 2 = .ok (.iload_n 2, 1) := by decide +kernel
theorem dX4_addLamp_3 : decode cX4_addLamp 3 = .ok (.invokestatic 78, 3) := by decide +kernel
theorem dX4_addLamp_6 : decode cX4_addLamp 6 = .ok (.ifCond .ne 7, 3) := by decide +kernel
theorem dX4_addLamp_9 : decode cX4_addLamp 9 = .ok (.iconst 1, 1) := by decide +kernel
theorem dX4_addLamp_10 : decode cX4_addLamp 10 = .ok (.goto 17, 3) := by decide +kernel
theorem dX4_addLamp_13 : decode cX4_addLamp 13 = .ok (.aload_n 0, 1) := by decide +kernel
theorem dX4_addLamp_14 : decode cX4_addLamp 14 = .ok (.getfield 72, 3) := by decide +kernel
theorem dX4_addLamp_17 : decode cX4_addLamp 17 = .ok (.bipush 20, 2) := by decide +kernel
theorem dX4_addLamp_19 : decode cX4_addLamp 19 = .ok (.if_icmp .ne 7, 3) := by decide +kernel
theorem dX4_addLamp_22 : decode cX4_addLamp 22 = .ok (.iconst 2, 1) := by decide +kernel
theorem dX4_addLamp_23 : decode cX4_addLamp 23 = .ok (.goto 4, 3) := by decide +kernel
theorem dX4_addLamp_26 : decode cX4_addLamp 26 = .ok (.iconst 0, 1) := by decide +kernel
theorem dX4_addLamp_27 : decode cX4_addLamp 27 = .ok (.putfield 64, 3) := by decide +kernel
theorem dX4_addLamp_30 : decode cX4_addLamp 30 = .ok (.aload_n 0, 1) := by decide +kernel
theorem dX4_addLamp_31 : decode cX4_addLamp 31 = .ok (.getfield 64, 3) := by decide +kernel
theorem dX4_addLamp_34 : decode cX4_addLamp 34 = .ok (.ifCond .le 5, 3) := by decide +kernel
theorem dX4_addLamp_37 : decode cX4_addLamp 37 = .ok (.iconst 0, 1) := by decide +kernel
theorem dX4_addLamp_38 : decode cX4_addLamp 38 = .ok (.ireturn, 1) := by decide +kernel
theorem dX4_addLamp_39 : decode cX4_addLamp 39 = .ok (.aload_n 0, 1) := by decide +kernel
theorem dX4_addLamp_40 : decode cX4_addLamp 40 = .ok (.getfield 7, 3) := by decide +kernel
theorem dX4_addLamp_43 : decode cX4_addLamp 43 = .ok (.aload_n 0, 1) := by decide +kernel
theorem dX4_addLamp_44 : decode cX4_addLamp 44 = .ok (.getfield 72, 3) := by decide +kernel
theorem dX4_addLamp_47 : decode cX4_addLamp 47 = .ok (.iload_n 1, 1) := by decide +kernel
theorem dX4_addLamp_48 : decode cX4_addLamp 48 = .ok (.iastore, 1) := by decide +kernel
theorem dX4_addLamp_49 : decode cX4_addLamp 49 = .ok (.aload_n 0, 1) := by decide +kernel
theorem dX4_addLamp_50 : decode cX4_addLamp 50 = .ok (.getfield 13, 3) := by decide +kernel
theorem dX4_addLamp_53 : decode cX4_addLamp 53 = .ok (.aload_n 0, 1) := by decide +kernel
theorem dX4_addLamp_54 : decode cX4_addLamp 54 = .ok (.getfield 72, 3) := by decide +kernel
theorem dX4_addLamp_57 : decode cX4_addLamp 57 = .ok (.iload_n 2, 1) := by decide +kernel
theorem dX4_addLamp_58 : decode cX4_addLamp 58 = .ok (.iastore, 1) := by decide +kernel
theorem dX4_addLamp_59 : decode cX4_addLamp 59 = .ok (.aload_n 0, 1) := by decide +kernel
theorem dX4_addLamp_60 : decode cX4_addLamp 60 = .ok (.dup, 1) := by decide +kernel
theorem dX4_addLamp_61 : decode cX4_addLamp 61 = .ok (.getfield 72, 3) := by decide +kernel
theorem dX4_addLamp_64 : decode cX4_addLamp 64 = .ok (.iconst 1, 1) := by decide +kernel
theorem dX4_addLamp_65 : decode cX4_addLamp 65 = .ok (.iadd, 1) := by decide +kernel
theorem dX4_addLamp_66 : decode cX4_addLamp 66 = .ok (.putfield 72, 3) := by decide +kernel
theorem dX4_addLamp_69 : decode cX4_addLamp 69 = .ok (.aload_n 0, 1) := by decide +kernel
theorem dX4_addLamp_70 : decode cX4_addLamp 70 = .ok (.getfield 72, 3) := by decide +kernel
theorem dX4_addLamp_73 : decode cX4_addLamp 73 = .ok (.iconst 1, 1) := by decide +kernel
theorem dX4_addLamp_74 : decode cX4_addLamp 74 = .ok (.isub, 1) := by decide +kernel
theorem dX4_addLamp_75 : decode cX4_addLamp 75 = .ok (.ireturn, 1) := by decide +kernel
set_option maxRecDepth 20000 in
theorem ggX4_swap_X4_isLamp : GoodIn wsX4_swap wsX4_isLamp := goodIn_r _ [8, 9, 10, 11, 7, 12, 25, 26, 27, 28, 29, 30, 31, 32, 33, 34, 35, 36, 37, 38, 39, 40, 41, 42, 43, 44, 45, 46, 47] (by decide +kernel) (by decide +kernel)
set_option maxRecDepth 20000 in
theorem gX4_swap_X4_isLamp : GoodIn wsX4_swap (wsV RX4 82 RX4 yX4_isLamp wsX4_isLamp) := goodIn_app (goodIn_of _ (by decide +kernel)) ggX4_swap_X4_isLamp
set_option maxRecDepth 20000 in
theorem ggX4_swap_X4_isMade : GoodIn wsX4_swap wsX4_isMade := goodIn_r _ [15, 10, 11, 7, 12] (by decide +kernel) (by decide +kernel)
set_option maxRecDepth 20000 in
theorem gX4_swap_X4_isMade : GoodIn wsX4_swap (va_wsS RX4 78 yX4_isMade wsX4_isMade) := goodIn_app (goodIn_of _ (by decide +kernel)) ggX4_swap_X4_isMade
set_option maxRecDepth 20000 in
theorem ggX4_swap_X4_keeps : GoodIn wsX4_swap wsX4_keeps := goodIn_r _ [19, 20, 21, 22, 23, 24, 25, 26, 27, 28, 29, 30, 31, 32, 33, 34, 35, 36, 37, 38, 39, 40, 41, 42, 43, 44, 45, 46, 47] (by decide +kernel) (by decide +kernel)
set_option maxRecDepth 20000 in
theorem gX4_swap_X4_keeps : GoodIn wsX4_swap (wsV RX4 86 RX4 yX4_keeps wsX4_keeps) := goodIn_app (goodIn_of _ (by decide +kernel)) ggX4_swap_X4_keeps
theorem dX4_swap_0 : decode cX4_swap 0 = .ok (.aload_n 0, 1) := by decide +kernel
theorem dX4_swap_1 : decode cX4_swap 1 = .ok (.aload_n 0, 1) := by decide +kernel
theorem dX4_swap_2 : decode cX4_swap 2 = .ok (.iload_n 1, 1) := by decide +kernel
theorem dX4_swap_3 : decode cX4_swap 3 = .ok (.invokevirtual 82, 3) := by decide +kernel
theorem dX4_swap_6 : decode cX4_swap 6 = .ok (.ifCond .ne 7, 3) := by decide +kernel
theorem dX4_swap_9 : decode cX4_swap 9 = .ok (.iconst 1, 1) := by decide +kernel
theorem dX4_swap_10 : decode cX4_swap 10 = .ok (.goto 16, 3) := by decide +kernel
theorem dX4_swap_13 : decode cX4_swap 13 = .ok (.iload_n 2, 1) := by decide +kernel
theorem dX4_swap_14 : decode cX4_swap 14 = .ok (.iload_n 3, 1) := by decide +kernel
theorem dX4_swap_15 : decode cX4_swap 15 = .ok (.invokestatic 78, 3) := by decide +kernel
theorem dX4_swap_18 : decode cX4_swap 18 = .ok (.ifCond .ne 7, 3) := by decide +kernel
theorem dX4_swap_21 : decode cX4_swap 21 = .ok (.iconst 2, 1) := by decide +kernel
theorem dX4_swap_22 : decode cX4_swap 22 = .ok (.goto 4, 3) := by decide +kernel
theorem dX4_swap_25 : decode cX4_swap 25 = .ok (.iconst 0, 1) := by decide +kernel
theorem dX4_swap_26 : decode cX4_swap 26 = .ok (.putfield 64, 3) := by decide +kernel
theorem dX4_swap_29 : decode cX4_swap 29 = .ok (.aload_n 0, 1) := by decide +kernel
theorem dX4_swap_30 : decode cX4_swap 30 = .ok (.getfield 64, 3) := by decide +kernel
theorem dX4_swap_33 : decode cX4_swap 33 = .ok (.ifCond .ne 35, 3) := by decide +kernel
theorem dX4_swap_36 : decode cX4_swap 36 = .ok (.aload_n 0, 1) := by decide +kernel
theorem dX4_swap_37 : decode cX4_swap 37 = .ok (.iconst 0, 1) := by decide +kernel
theorem dX4_swap_38 : decode cX4_swap 38 = .ok (.iload_n 1, 1) := by decide +kernel
theorem dX4_swap_39 : decode cX4_swap 39 = .ok (.aload_n 0, 1) := by decide +kernel
theorem dX4_swap_40 : decode cX4_swap 40 = .ok (.getfield 7, 3) := by decide +kernel
theorem dX4_swap_43 : decode cX4_swap 43 = .ok (.iload_n 1, 1) := by decide +kernel
theorem dX4_swap_44 : decode cX4_swap 44 = .ok (.iaload, 1) := by decide +kernel
theorem dX4_swap_45 : decode cX4_swap 45 = .ok (.aload_n 0, 1) := by decide +kernel
theorem dX4_swap_46 : decode cX4_swap 46 = .ok (.getfield 13, 3) := by decide +kernel
theorem dX4_swap_49 : decode cX4_swap 49 = .ok (.iload_n 1, 1) := by decide +kernel
theorem dX4_swap_50 : decode cX4_swap 50 = .ok (.iaload, 1) := by decide +kernel
theorem dX4_swap_51 : decode cX4_swap 51 = .ok (.invokevirtual 86, 3) := by decide +kernel
theorem dX4_swap_54 : decode cX4_swap 54 = .ok (.aload_n 0, 1) := by decide +kernel
theorem dX4_swap_55 : decode cX4_swap 55 = .ok (.getfield 7, 3) := by decide +kernel
theorem dX4_swap_58 : decode cX4_swap 58 = .ok (.iload_n 1, 1) := by decide +kernel
theorem dX4_swap_59 : decode cX4_swap 59 = .ok (.iload_n 2, 1) := by decide +kernel
theorem dX4_swap_60 : decode cX4_swap 60 = .ok (.iastore, 1) := by decide +kernel
theorem dX4_swap_61 : decode cX4_swap 61 = .ok (.aload_n 0, 1) := by decide +kernel
theorem dX4_swap_62 : decode cX4_swap 62 = .ok (.getfield 13, 3) := by decide +kernel
theorem dX4_swap_65 : decode cX4_swap 65 = .ok (.iload_n 1, 1) := by decide +kernel
theorem dX4_swap_66 : decode cX4_swap 66 = .ok (.iload_n 3, 1) := by decide +kernel
theorem dX4_swap_67 : decode cX4_swap 67 = .ok (.iastore, 1) := by decide +kernel
theorem dX4_swap_68 : decode cX4_swap 68 = .ok (.return_, 1) := by decide +kernel
set_option maxRecDepth 20000 in
theorem ggX4_hang_X4_isLamp : GoodIn wsX4_hang wsX4_isLamp := goodIn_r _ [7, 8, 9, 10, 6, 11, 27, 28, 29, 30, 31, 32, 33, 34, 35, 36, 37, 38, 39, 40, 41, 42, 43, 44, 45, 46, 47, 48, 49] (by decide +kernel) (by decide +kernel)
set_option maxRecDepth 20000 in
theorem gX4_hang_X4_isLamp : GoodIn wsX4_hang (wsV RX4 82 RX4 yX4_isLamp wsX4_isLamp) := goodIn_app (goodIn_of _ (by decide +kernel)) ggX4_hang_X4_isLamp
set_option maxRecDepth 20000 in
theorem ggX4_hang_X4_isNight : GoodIn wsX4_hang wsX4_isNight := goodIn_r _ [14, 9, 10, 6, 11] (by decide +kernel) (by decide +kernel)
set_option maxRecDepth 20000 in
theorem gX4_hang_X4_isNight : GoodIn wsX4_hang (va_wsS RX4 90 yX4_isNight wsX4_isNight) := goodIn_app (goodIn_of _ (by decide +kernel)) ggX4_hang_X4_isNight
set_option maxRecDepth 20000 in
theorem ggX4_hang_X4_isChannel : GoodIn wsX4_hang wsX4_isChannel := goodIn_r _ [17, 9, 10, 6, 11] (by decide +kernel) (by decide +kernel)
set_option maxRecDepth 20000 in
theorem gX4_hang_X4_isChannel : GoodIn wsX4_hang (va_wsS RX4 93 yX4_isChannel wsX4_isChannel) := goodIn_app (goodIn_of _ (by decide +kernel)) ggX4_hang_X4_isChannel
set_option maxRecDepth 20000 in
theorem ggX4_hang_X4_keeps : GoodIn wsX4_hang wsX4_keeps := goodIn_r _ [21, 22, 23, 24, 25, 26, 27, 28, 29, 30, 31, 32, 33, 34, 35, 36, 37, 38, 39, 40, 41, 42, 43, 44, 45, 46, 47, 48, 49] (by decide +kernel) (by decide +kernel)
set_option maxRecDepth 20000 in
theorem gX4_hang_X4_keeps : GoodIn wsX4_hang (wsV RX4 86 RX4 yX4_keeps wsX4_keeps) := goodIn_app (goodIn_of _ (by decide +kernel)) ggX4_hang_X4_keeps
theorem dX4_hang_0 : decode cX4_hang 0 = .ok (.aload_n 0, 1) := by decide +kernel
theorem dX4_hang_1 : decode cX4_hang 1 = .ok (.aload_n 0, 1) := by decide +kernel
theorem dX4_hang_2 : decode cX4_hang 2 = .ok (.iload_n 2, 1) := by decide +kernel
theorem dX4_hang_3 : decode cX4_hang 3 = .ok (.invokevirtual 82, 3) := by decide +kernel
theorem dX4_hang_6 : decode cX4_hang 6 = .ok (.ifCond .ne 7, 3) := by decide +kernel
theorem dX4_hang_9 : decode cX4_hang 9 = .ok (.iconst 1, 1) := by decide +kernel
theorem dX4_hang_10 : decode cX4_hang 10 = .ok (.goto 27, 3) := by decide +kernel
theorem dX4_hang_13 : decode cX4_hang 13 = .ok (.iload_n 1, 1) := by decide +kernel
theorem dX4_hang_14 : decode cX4_hang 14 = .ok (.invokestatic 90, 3) := by decide +kernel
theorem dX4_hang_17 : decode cX4_hang 17 = .ok (.ifCond .eq 15, 3) := by decide +kernel
theorem dX4_hang_20 : decode cX4_hang 20 = .ok (.iload_n 3, 1) := by decide +kernel
theorem dX4_hang_21 : decode cX4_hang 21 = .ok (.iconst (-1), 1) := by decide +kernel
theorem dX4_hang_22 : decode cX4_hang 22 = .ok (.if_icmp .eq 14, 3) := by decide +kernel
theorem dX4_hang_25 : decode cX4_hang 25 = .ok (.iload_n 3, 1) := by decide +kernel
theorem dX4_hang_26 : decode cX4_hang 26 = .ok (.invokestatic 93, 3) := by decide +kernel
theorem dX4_hang_29 : decode cX4_hang 29 = .ok (.ifCond .ne 7, 3) := by decide +kernel
theorem dX4_hang_32 : decode cX4_hang 32 = .ok (.iconst 2, 1) := by decide +kernel
theorem dX4_hang_33 : decode cX4_hang 33 = .ok (.goto 4, 3) := by decide +kernel
theorem dX4_hang_36 : decode cX4_hang 36 = .ok (.iconst 0, 1) := by decide +kernel
theorem dX4_hang_37 : decode cX4_hang 37 = .ok (.putfield 64, 3) := by decide +kernel
theorem dX4_hang_40 : decode cX4_hang 40 = .ok (.aload_n 0, 1) := by decide +kernel
theorem dX4_hang_41 : decode cX4_hang 41 = .ok (.getfield 64, 3) := by decide +kernel
theorem dX4_hang_44 : decode cX4_hang 44 = .ok (.ifCond .le 5, 3) := by decide +kernel
theorem dX4_hang_47 : decode cX4_hang 47 = .ok (.iconst 0, 1) := by decide +kernel
theorem dX4_hang_48 : decode cX4_hang 48 = .ok (.ireturn, 1) := by decide +kernel
theorem dX4_hang_49 : decode cX4_hang 49 = .ok (.bipush 20, 2) := by decide +kernel
theorem dX4_hang_51 : decode cX4_hang 51 = .ok (.iload_n 1, 1) := by decide +kernel
theorem dX4_hang_52 : decode cX4_hang 52 = .ok (.imul, 1) := by decide +kernel
theorem dX4_hang_53 : decode cX4_hang 53 = .ok (.iload_n 2, 1) := by decide +kernel
theorem dX4_hang_54 : decode cX4_hang 54 = .ok (.iadd, 1) := by decide +kernel
theorem dX4_hang_55 : decode cX4_hang 55 = .ok (.istore 4, 2) := by decide +kernel
theorem dX4_hang_57 : decode cX4_hang 57 = .ok (.aload_n 0, 1) := by decide +kernel
theorem dX4_hang_58 : decode cX4_hang 58 = .ok (.getfield 16, 3) := by decide +kernel
theorem dX4_hang_61 : decode cX4_hang 61 = .ok (.iload 4, 2) := by decide +kernel
theorem dX4_hang_63 : decode cX4_hang 63 = .ok (.iaload, 1) := by decide +kernel
theorem dX4_hang_64 : decode cX4_hang 64 = .ok (.iconst 1, 1) := by decide +kernel
theorem dX4_hang_65 : decode cX4_hang 65 = .ok (.isub, 1) := by decide +kernel
theorem dX4_hang_66 : decode cX4_hang 66 = .ok (.istore 5, 2) := by decide +kernel
theorem dX4_hang_68 : decode cX4_hang 68 = .ok (.aload_n 0, 1) := by decide +kernel
theorem dX4_hang_69 : decode cX4_hang 69 = .ok (.iconst 1, 1) := by decide +kernel
theorem dX4_hang_70 : decode cX4_hang 70 = .ok (.iload 4, 2) := by decide +kernel
theorem dX4_hang_72 : decode cX4_hang 72 = .ok (.aload_n 0, 1) := by decide +kernel
theorem dX4_hang_73 : decode cX4_hang 73 = .ok (.getfield 16, 3) := by decide +kernel
theorem dX4_hang_76 : decode cX4_hang 76 = .ok (.iload 4, 2) := by decide +kernel
theorem dX4_hang_78 : decode cX4_hang 78 = .ok (.iaload, 1) := by decide +kernel
theorem dX4_hang_79 : decode cX4_hang 79 = .ok (.iconst 0, 1) := by decide +kernel
theorem dX4_hang_80 : decode cX4_hang 80 = .ok (.invokevirtual 86, 3) := by decide +kernel
theorem dX4_hang_83 : decode cX4_hang 83 = .ok (.aload_n 0, 1) := by decide +kernel
theorem dX4_hang_84 : decode cX4_hang 84 = .ok (.getfield 16, 3) := by decide +kernel
theorem dX4_hang_87 : decode cX4_hang 87 = .ok (.iload 4, 2) := by decide +kernel
theorem dX4_hang_89 : decode cX4_hang 89 = .ok (.iload_n 3, 1) := by decide +kernel
theorem dX4_hang_90 : decode cX4_hang 90 = .ok (.iconst 1, 1) := by decide +kernel
theorem dX4_hang_91 : decode cX4_hang 91 = .ok (.iadd, 1) := by decide +kernel
theorem dX4_hang_92 : decode cX4_hang 92 = .ok (.iastore, 1) := by decide +kernel
theorem dX4_hang_93 : decode cX4_hang 93 = .ok (.iload 5, 2) := by decide +kernel
theorem dX4_hang_95 : decode cX4_hang 95 = .ok (.ireturn, 1) := by decide +kernel
set_option maxRecDepth 20000 in
theorem ggX4_setNight_X4_isNight : GoodIn wsX4_setNight wsX4_isNight := goodIn_r _ [6, 7, 8, 5, 9] (by decide +kernel) (by decide +kernel)
set_option maxRecDepth 20000 in
theorem gX4_setNight_X4_isNight : GoodIn wsX4_setNight (va_wsS RX4 90 yX4_isNight wsX4_isNight) := goodIn_app (goodIn_of _ (by decide +kernel)) ggX4_setNight_X4_isNight
theorem dX4_setNight_0 : decode cX4_setNight 0 = .ok (.aload_n 0, 1) := by decide +kernel
theorem dX4_setNight_1 : decode cX4_setNight 1 = .ok (.iload_n 1, 1) := by decide +kernel
theorem dX4_setNight_2 : decode cX4_setNight 2 = .ok (.invokestatic 90, 3) := by decide +kernel
theorem dX4_setNight_5 : decode cX4_setNight 5 = .ok (.ifCond .eq 7, 3) := by decide +kernel
theorem dX4_setNight_8 : decode cX4_setNight 8 = .ok (.iconst 0, 1) := by decide +kernel
theorem dX4_setNight_9 : decode cX4_setNight 9 = .ok (.goto 4, 3) := by decide +kernel
theorem dX4_setNight_12 : decode cX4_setNight 12 = .ok (.iconst 1, 1) := by decide +kernel
theorem dX4_setNight_13 : decode cX4_setNight 13 = .ok (.putfield 64, 3) := by decide +kernel
theorem dX4_setNight_16 : decode cX4_setNight 16 = .ok (.aload_n 0, 1) := by decide +kernel
theorem dX4_setNight_17 : decode cX4_setNight 17 = .ok (.getfield 64, 3) := by decide +kernel
theorem dX4_setNight_20 : decode cX4_setNight 20 = .ok (.ifCond .le 5, 3) := by decide +kernel
theorem dX4_setNight_23 : decode cX4_setNight 23 = .ok (.iconst 0, 1) := by decide +kernel
theorem dX4_setNight_24 : decode cX4_setNight 24 = .ok (.ireturn, 1) := by decide +kernel
theorem dX4_setNight_25 : decode cX4_setNight 25 = .ok (.aload_n 0, 1) := by decide +kernel
theorem dX4_setNight_26 : decode cX4_setNight 26 = .ok (.getfield 96, 3) := by decide +kernel
theorem dX4_setNight_29 : decode cX4_setNight 29 = .ok (.istore_n 2, 1) := by decide +kernel
theorem dX4_setNight_30 : decode cX4_setNight 30 = .ok (.aload_n 0, 1) := by decide +kernel
theorem dX4_setNight_31 : decode cX4_setNight 31 = .ok (.iload_n 1, 1) := by decide +kernel
theorem dX4_setNight_32 : decode cX4_setNight 32 = .ok (.putfield 96, 3) := by decide +kernel
theorem dX4_setNight_35 : decode cX4_setNight 35 = .ok (.iload_n 2, 1) := by decide +kernel
theorem dX4_setNight_36 : decode cX4_setNight 36 = .ok (.ireturn, 1) := by decide +kernel
set_option maxRecDepth 20000 in
theorem ggX4_setLatest_X4_isChannel : GoodIn wsX4_setLatest wsX4_isChannel := goodIn_r _ [6, 7, 8, 5, 9] (by decide +kernel) (by decide +kernel)
set_option maxRecDepth 20000 in
theorem gX4_setLatest_X4_isChannel : GoodIn wsX4_setLatest (va_wsS RX4 93 yX4_isChannel wsX4_isChannel) := goodIn_app (goodIn_of _ (by decide +kernel)) ggX4_setLatest_X4_isChannel
theorem dX4_setLatest_0 : decode cX4_setLatest 0 = .ok (.aload_n 0, 1) := by decide +kernel
theorem dX4_setLatest_1 : decode cX4_setLatest 1 = .ok (.iload_n 1, 1) := by decide +kernel
theorem dX4_setLatest_2 : decode cX4_setLatest 2 = .ok (.invokestatic 93, 3) := by decide +kernel
theorem dX4_setLatest_5 : decode cX4_setLatest 5 = .ok (.ifCond .eq 7, 3) := by decide +kernel
theorem dX4_setLatest_8 : decode cX4_setLatest 8 = .ok (.iconst 0, 1) := by decide +kernel
theorem dX4_setLatest_9 : decode cX4_setLatest 9 = .ok (.goto 4, 3) := by decide +kernel
theorem dX4_setLatest_12 : decode cX4_setLatest 12 = .ok (.iconst 1, 1) := by decide +kernel
theorem dX4_setLatest_13 : decode cX4_setLatest 13 = .ok (.putfield 64, 3) := by decide +kernel
theorem dX4_setLatest_16 : decode cX4_setLatest 16 = .ok (.aload_n 0, 1) := by decide +kernel
theorem dX4_setLatest_17 : decode cX4_setLatest 17 = .ok (.getfield 64, 3) := by decide +kernel
theorem dX4_setLatest_20 : decode cX4_setLatest 20 = .ok (.ifCond .le 5, 3) := by decide +kernel
theorem dX4_setLatest_23 : decode cX4_setLatest 23 = .ok (.iconst 0, 1) := by decide +kernel
theorem dX4_setLatest_24 : decode cX4_setLatest 24 = .ok (.ireturn, 1) := by decide +kernel
theorem dX4_setLatest_25 : decode cX4_setLatest 25 = .ok (.aload_n 0, 1) := by decide +kernel
theorem dX4_setLatest_26 : decode cX4_setLatest 26 = .ok (.getfield 19, 3) := by decide +kernel
theorem dX4_setLatest_29 : decode cX4_setLatest 29 = .ok (.iload_n 1, 1) := by decide +kernel
theorem dX4_setLatest_30 : decode cX4_setLatest 30 = .ok (.iaload, 1) := by decide +kernel
theorem dX4_setLatest_31 : decode cX4_setLatest 31 = .ok (.iconst 1, 1) := by decide +kernel
theorem dX4_setLatest_32 : decode cX4_setLatest 32 = .ok (.if_icmp .ne 7, 3) := by decide +kernel
theorem dX4_setLatest_35 : decode cX4_setLatest 35 = .ok (.iconst 1, 1) := by decide +kernel
theorem dX4_setLatest_36 : decode cX4_setLatest 36 = .ok (.goto 4, 3) := by decide +kernel
theorem dX4_setLatest_39 : decode cX4_setLatest 39 = .ok (.iconst 0, 1) := by decide +kernel
theorem dX4_setLatest_40 : decode cX4_setLatest 40 = .ok (.istore_n 3, 1) := by decide +kernel
theorem dX4_setLatest_41 : decode cX4_setLatest 41 = .ok (.aload_n 0, 1) := by decide +kernel
theorem dX4_setLatest_42 : decode cX4_setLatest 42 = .ok (.getfield 19, 3) := by decide +kernel
theorem dX4_setLatest_45 : decode cX4_setLatest 45 = .ok (.iload_n 1, 1) := by decide +kernel
theorem dX4_setLatest_46 : decode cX4_setLatest 46 = .ok (.iload_n 2, 1) := by decide +kernel
theorem dX4_setLatest_47 : decode cX4_setLatest 47 = .ok (.ifCond .eq 7, 3) := by decide +kernel
theorem dX4_setLatest_50 : decode cX4_setLatest 50 = .ok (.iconst 1, 1) := by decide +kernel
theorem dX4_setLatest_51 : decode cX4_setLatest 51 = .ok (.goto 4, 3) := by decide +kernel
theorem dX4_setLatest_54 : decode cX4_setLatest 54 = .ok (.iconst 0, 1) := by decide +kernel
theorem dX4_setLatest_55 : decode cX4_setLatest 55 = .ok (.iastore, 1) := by decide +kernel
theorem dX4_setLatest_56 : decode cX4_setLatest 56 = .ok (.iload_n 3, 1) := by decide +kernel
theorem dX4_setLatest_57 : decode cX4_setLatest 57 = .ok (.ireturn, 1) := by decide +kernel
set_option maxRecDepth 20000 in
theorem ggX4_addCue_X4_isList : GoodIn wsX4_addCue wsX4_isList := goodIn_r _ [9, 10, 11, 8, 12] (by decide +kernel) (by decide +kernel)
set_option maxRecDepth 20000 in
theorem gX4_addCue_X4_isList : GoodIn wsX4_addCue (va_wsS RX4 99 yX4_isList wsX4_isList) := goodIn_app (goodIn_of _ (by decide +kernel)) ggX4_addCue_X4_isList
set_option maxRecDepth 20000 in
theorem ggX4_addCue_X4_in : GoodIn wsX4_addCue wsX4_in := goodIn_r _ [12] (by decide +kernel) (by decide +kernel)
set_option maxRecDepth 20000 in
theorem gX4_addCue_X4_in : GoodIn wsX4_addCue (va_wsS RX4 68 yX4_in wsX4_in) := goodIn_app (goodIn_of _ (by decide +kernel)) ggX4_addCue_X4_in
set_option maxRecDepth 20000 in
theorem ggX4_addCue_X4_fails : GoodIn wsX4_addCue wsX4_fails := goodIn_r _ [16, 1, 17, 18, 19, 20, 21, 22, 23, 24, 25, 26, 27, 28, 29, 30, 31, 32, 33, 34, 35, 36, 37, 38, 39] (by decide +kernel) (by decide +kernel)
set_option maxRecDepth 20000 in
theorem gX4_addCue_X4_fails : GoodIn wsX4_addCue (wsV RX4 102 RX4 yX4_fails wsX4_fails) := goodIn_app (goodIn_of _ (by decide +kernel)) ggX4_addCue_X4_fails
theorem dX4_addCue_0 : decode cX4_addCue 0 = .ok (.aload_n 0, 1) := by decide +kernel
theorem dX4_addCue_1 : decode cX4_addCue 1 = .ok (.iload_n 1, 1) := by decide +kernel
theorem dX4_addCue_2 : decode cX4_addCue 2 = .ok (.invokestatic 99, 3) := by decide +kernel
theorem dX4_addCue_5 : decode cX4_addCue 5 = .ok (.ifCond .eq 23, 3) := by decide +kernel
theorem dX4_addCue_8 : decode cX4_addCue 8 = .ok (.iload_n 2, 1) := by decide +kernel
theorem dX4_addCue_9 : decode cX4_addCue 9 = .ok (.iconst 0, 1) := by decide +kernel
theorem dX4_addCue_10 : decode cX4_addCue 10 = .ok (.bipush 100, 2) := by decide +kernel
theorem dX4_addCue_12 : decode cX4_addCue 12 = .ok (.invokestatic 68, 3) := by decide +kernel
theorem dX4_addCue_15 : decode cX4_addCue 15 = .ok (.ifCond .eq 13, 3) := by decide +kernel
theorem dX4_addCue_18 : decode cX4_addCue 18 = .ok (.iload_n 3, 1) := by decide +kernel
theorem dX4_addCue_19 : decode cX4_addCue 19 = .ok (.iconst 0, 1) := by decide +kernel
theorem dX4_addCue_20 : decode cX4_addCue 20 = .ok (.bipush 100, 2) := by decide +kernel
theorem dX4_addCue_22 : decode cX4_addCue 22 = .ok (.invokestatic 68, 3) := by decide +kernel
theorem dX4_addCue_25 : decode cX4_addCue 25 = .ok (.ifCond .ne 7, 3) := by decide +kernel
theorem dX4_addCue_28 : decode cX4_addCue 28 = .ok (.iconst 1, 1) := by decide +kernel
theorem dX4_addCue_29 : decode cX4_addCue 29 = .ok (.goto 4, 3) := by decide +kernel
theorem dX4_addCue_32 : decode cX4_addCue 32 = .ok (.iconst 0, 1) := by decide +kernel
theorem dX4_addCue_33 : decode cX4_addCue 33 = .ok (.putfield 64, 3) := by decide +kernel
theorem dX4_addCue_36 : decode cX4_addCue 36 = .ok (.aload_n 0, 1) := by decide +kernel
theorem dX4_addCue_37 : decode cX4_addCue 37 = .ok (.getfield 64, 3) := by decide +kernel
theorem dX4_addCue_40 : decode cX4_addCue 40 = .ok (.ifCond .le 5, 3) := by decide +kernel
theorem dX4_addCue_43 : decode cX4_addCue 43 = .ok (.iconst 0, 1) := by decide +kernel
theorem dX4_addCue_44 : decode cX4_addCue 44 = .ok (.ireturn, 1) := by decide +kernel
theorem dX4_addCue_45 : decode cX4_addCue 45 = .ok (.aload_n 0, 1) := by decide +kernel
theorem dX4_addCue_46 : decode cX4_addCue 46 = .ok (.getfield 25, 3) := by decide +kernel
theorem dX4_addCue_49 : decode cX4_addCue 49 = .ok (.iload_n 1, 1) := by decide +kernel
theorem dX4_addCue_50 : decode cX4_addCue 50 = .ok (.iaload, 1) := by decide +kernel
theorem dX4_addCue_51 : decode cX4_addCue 51 = .ok (.bipush 10, 2) := by decide +kernel
theorem dX4_addCue_53 : decode cX4_addCue 53 = .ok (.if_icmp .ne 9, 3) := by decide +kernel
theorem dX4_addCue_56 : decode cX4_addCue 56 = .ok (.aload_n 0, 1) := by decide +kernel
theorem dX4_addCue_57 : decode cX4_addCue 57 = .ok (.iconst 2, 1) := by decide +kernel
theorem dX4_addCue_58 : decode cX4_addCue 58 = .ok (.invokevirtual 102, 3) := by decide +kernel
theorem dX4_addCue_61 : decode cX4_addCue 61 = .ok (.ireturn, 1) := by decide +kernel
theorem dX4_addCue_62 : decode cX4_addCue 62 = .ok (.bipush 10, 2) := by decide +kernel
theorem dX4_addCue_64 : decode cX4_addCue 64 = .ok (.iload_n 1, 1) := by decide +kernel
theorem dX4_addCue_65 : decode cX4_addCue 65 = .ok (.imul, 1) := by decide +kernel
theorem dX4_addCue_66 : decode cX4_addCue 66 = .ok (.aload_n 0, 1) := by decide +kernel
theorem dX4_addCue_67 : decode cX4_addCue 67 = .ok (.getfield 25, 3) := by decide +kernel
theorem dX4_addCue_70 : decode cX4_addCue 70 = .ok (.iload_n 1, 1) := by decide +kernel
theorem dX4_addCue_71 : decode cX4_addCue 71 = .ok (.iaload, 1) := by decide +kernel
theorem dX4_addCue_72 : decode cX4_addCue 72 = .ok (.iadd, 1) := by decide +kernel
theorem dX4_addCue_73 : decode cX4_addCue 73 = .ok (.istore 5, 2) := by decide +kernel
theorem dX4_addCue_75 : decode cX4_addCue 75 = .ok (.aload_n 0, 1) := by decide +kernel
theorem dX4_addCue_76 : decode cX4_addCue 76 = .ok (.getfield 28, 3) := by decide +kernel
theorem dX4_addCue_79 : decode cX4_addCue 79 = .ok (.iload 5, 2) := by decide +kernel
theorem dX4_addCue_81 : decode cX4_addCue 81 = .ok (.iload_n 2, 1) := by decide +kernel
theorem dX4_addCue_82 : decode cX4_addCue 82 = .ok (.iastore, 1) := by decide +kernel
theorem dX4_addCue_83 : decode cX4_addCue 83 = .ok (.aload_n 0, 1) := by decide +kernel
theorem dX4_addCue_84 : decode cX4_addCue 84 = .ok (.getfield 31, 3) := by decide +kernel
theorem dX4_addCue_87 : decode cX4_addCue 87 = .ok (.iload 5, 2) := by decide +kernel
theorem dX4_addCue_89 : decode cX4_addCue 89 = .ok (.iload_n 3, 1) := by decide +kernel
theorem dX4_addCue_90 : decode cX4_addCue 90 = .ok (.iastore, 1) := by decide +kernel
theorem dX4_addCue_91 : decode cX4_addCue 91 = .ok (.aload_n 0, 1) := by decide +kernel
theorem dX4_addCue_92 : decode cX4_addCue 92 = .ok (.getfield 34, 3) := by decide +kernel
theorem dX4_addCue_95 : decode cX4_addCue 95 = .ok (.iload 5, 2) := by decide +kernel
theorem dX4_addCue_97 : decode cX4_addCue 97 = .ok (.iload 4, 2) := by decide +kernel
theorem dX4_addCue_99 : decode cX4_addCue 99 = .ok (.ifCond .eq 7, 3) := by decide +kernel
theorem dX4_addCue_102 : decode cX4_addCue 102 = .ok (.iconst 1, 1) := by decide +kernel
theorem dX4_addCue_103 : decode cX4_addCue 103 = .ok (.goto 4, 3) := by decide +kernel
theorem dX4_addCue_106 : decode cX4_addCue 106 = .ok (.iconst 0, 1) := by decide +kernel
theorem dX4_addCue_107 : decode cX4_addCue 107 = .ok (.iastore, 1) := by decide +kernel
theorem dX4_addCue_108 : decode cX4_addCue 108 = .ok (.aload_n 0, 1) := by decide +kernel
theorem dX4_addCue_109 : decode cX4_addCue 109 = .ok (.getfield 25, 3) := by decide +kernel
theorem dX4_addCue_112 : decode cX4_addCue 112 = .ok (.iload_n 1, 1) := by decide +kernel
theorem dX4_addCue_113 : decode cX4_addCue 113 = .ok (.dup2, 1) := by decide +kernel
theorem dX4_addCue_114 : decode cX4_addCue 114 = .ok (.iaload, 1) := by decide +kernel
theorem dX4_addCue_115 : decode cX4_addCue 115 = .ok (.iconst 1, 1) := by decide +kernel
theorem dX4_addCue_116 : decode cX4_addCue 116 = .ok (.iadd, 1) := by decide +kernel
theorem dX4_addCue_117 : decode cX4_addCue 117 = .ok (.iastore, 1) := by decide +kernel
theorem dX4_addCue_118 : decode cX4_addCue 118 = .ok (.aload_n 0, 1) := by decide +kernel
theorem dX4_addCue_119 : decode cX4_addCue 119 = .ok (.getfield 25, 3) := by decide +kernel
theorem dX4_addCue_122 : decode cX4_addCue 122 = .ok (.iload_n 1, 1) := by decide +kernel
theorem dX4_addCue_123 : decode cX4_addCue 123 = .ok (.iaload, 1) := by decide +kernel
theorem dX4_addCue_124 : decode cX4_addCue 124 = .ok (.iconst 1, 1) := by decide +kernel
theorem dX4_addCue_125 : decode cX4_addCue 125 = .ok (.isub, 1) := by decide +kernel
theorem dX4_addCue_126 : decode cX4_addCue 126 = .ok (.ireturn, 1) := by decide +kernel
set_option maxRecDepth 20000 in
theorem ggX4_setLevel_X4_isList : GoodIn wsX4_setLevel wsX4_isList := goodIn_r _ [7, 8, 9, 6, 10] (by decide +kernel) (by decide +kernel)
set_option maxRecDepth 20000 in
theorem gX4_setLevel_X4_isList : GoodIn wsX4_setLevel (va_wsS RX4 99 yX4_isList wsX4_isList) := goodIn_app (goodIn_of _ (by decide +kernel)) ggX4_setLevel_X4_isList
set_option maxRecDepth 20000 in
theorem ggX4_setLevel_X4_isChannel : GoodIn wsX4_setLevel wsX4_isChannel := goodIn_r _ [13, 8, 9, 6, 10] (by decide +kernel) (by decide +kernel)
set_option maxRecDepth 20000 in
theorem gX4_setLevel_X4_isChannel : GoodIn wsX4_setLevel (va_wsS RX4 93 yX4_isChannel wsX4_isChannel) := goodIn_app (goodIn_of _ (by decide +kernel)) ggX4_setLevel_X4_isChannel
set_option maxRecDepth 20000 in
theorem ggX4_setLevel_X4_in : GoodIn wsX4_setLevel wsX4_in := goodIn_r _ [10] (by decide +kernel) (by decide +kernel)
set_option maxRecDepth 20000 in
theorem gX4_setLevel_X4_in : GoodIn wsX4_setLevel (va_wsS RX4 68 yX4_in wsX4_in) := goodIn_app (goodIn_of _ (by decide +kernel)) ggX4_setLevel_X4_in
set_option maxRecDepth 20000 in
theorem ggX4_setLevel_X4_keeps : GoodIn wsX4_setLevel wsX4_keeps := goodIn_r _ [17, 18, 19, 20, 21, 22, 23, 24, 25, 26, 27, 28, 29, 30, 31, 32, 33, 34, 35, 36, 37, 38, 39, 40, 41, 42, 43, 44, 45] (by decide +kernel) (by decide +kernel)
set_option maxRecDepth 20000 in
theorem gX4_setLevel_X4_keeps : GoodIn wsX4_setLevel (wsV RX4 86 RX4 yX4_keeps wsX4_keeps) := goodIn_app (goodIn_of _ (by decide +kernel)) ggX4_setLevel_X4_keeps
theorem dX4_setLevel_0 : decode cX4_setLevel 0 = .ok (.aload_n 0, 1) := by decide +kernel
theorem dX4_setLevel_1 : decode cX4_setLevel 1 = .ok (.iload_n 1, 1) := by decide +kernel
theorem dX4_setLevel_2 : decode cX4_setLevel 2 = .ok (.invokestatic 99, 3) := by decide +kernel
theorem dX4_setLevel_5 : decode cX4_setLevel 5 = .ok (.ifCond .eq 21, 3) := by decide +kernel
theorem dX4_setLevel_8 : decode cX4_setLevel 8 = .ok (.iload_n 3, 1) := by decide +kernel
theorem dX4_setLevel_9 : decode cX4_setLevel 9 = .ok (.invokestatic 93, 3) := by decide +kernel
theorem dX4_setLevel_12 : decode cX4_setLevel 12 = .ok (.ifCond .eq 14, 3) := by decide +kernel
theorem dX4_setLevel_15 : decode cX4_setLevel 15 = .ok (.iload 4, 2) := by decide +kernel
theorem dX4_setLevel_17 : decode cX4_setLevel 17 = .ok (.iconst (-1), 1) := by decide +kernel
theorem dX4_setLevel_18 : decode cX4_setLevel 18 = .ok (.bipush 100, 2) := by decide +kernel
theorem dX4_setLevel_20 : decode cX4_setLevel 20 = .ok (.invokestatic 68, 3) := by decide +kernel
theorem dX4_setLevel_23 : decode cX4_setLevel 23 = .ok (.ifCond .ne 7, 3) := by decide +kernel
theorem dX4_setLevel_26 : decode cX4_setLevel 26 = .ok (.iconst 1, 1) := by decide +kernel
theorem dX4_setLevel_27 : decode cX4_setLevel 27 = .ok (.goto 24, 3) := by decide +kernel
theorem dX4_setLevel_30 : decode cX4_setLevel 30 = .ok (.iload_n 2, 1) := by decide +kernel
theorem dX4_setLevel_31 : decode cX4_setLevel 31 = .ok (.iconst 0, 1) := by decide +kernel
theorem dX4_setLevel_32 : decode cX4_setLevel 32 = .ok (.aload_n 0, 1) := by decide +kernel
theorem dX4_setLevel_33 : decode cX4_setLevel 33 = .ok (.getfield 25, 3) := by decide +kernel
theorem dX4_setLevel_36 : decode cX4_setLevel 36 = .ok (.iload_n 1, 1) := by decide +kernel
theorem dX4_setLevel_37 : decode cX4_setLevel 37 = .ok (.iaload, 1) := by decide +kernel
theorem dX4_setLevel_38 : decode cX4_setLevel 38 = .ok (.iconst 1, 1) := by decide +kernel
theorem dX4_setLevel_39 : decode cX4_setLevel 39 = .ok (.isub, 1) := by decide +kernel
theorem dX4_setLevel_40 : decode cX4_setLevel 40 = .ok (.invokestatic 68, 3) := by decide +kernel
theorem dX4_setLevel_43 : decode cX4_setLevel 43 = .ok (.ifCond .ne 7, 3) := by decide +kernel
theorem dX4_setLevel_46 : decode cX4_setLevel 46 = .ok (.iconst 2, 1) := by decide +kernel
theorem dX4_setLevel_47 : decode cX4_setLevel 47 = .ok (.goto 4, 3) := by decide +kernel
theorem dX4_setLevel_50 : decode cX4_setLevel 50 = .ok (.iconst 0, 1) := by decide +kernel
theorem dX4_setLevel_51 : decode cX4_setLevel 51 = .ok (.putfield 64, 3) := by decide +kernel
theorem dX4_setLevel_54 : decode cX4_setLevel 54 = .ok (.aload_n 0, 1) := by decide +kernel
theorem dX4_setLevel_55 : decode cX4_setLevel 55 = .ok (.getfield 64, 3) := by decide +kernel
theorem dX4_setLevel_58 : decode cX4_setLevel 58 = .ok (.ifCond .le 5, 3) := by decide +kernel
theorem dX4_setLevel_61 : decode cX4_setLevel 61 = .ok (.iconst 0, 1) := by decide +kernel
theorem dX4_setLevel_62 : decode cX4_setLevel 62 = .ok (.ireturn, 1) := by decide +kernel
theorem dX4_setLevel_63 : decode cX4_setLevel 63 = .ok (.bipush 12, 2) := by decide +kernel
theorem dX4_setLevel_65 : decode cX4_setLevel 65 = .ok (.bipush 10, 2) := by decide +kernel
theorem dX4_setLevel_67 : decode cX4_setLevel 67 = .ok (.iload_n 1, 1) := by decide +kernel
theorem dX4_setLevel_68 : decode cX4_setLevel 68 = .ok (.imul, 1) := by decide +kernel
theorem dX4_setLevel_69 : decode cX4_setLevel 69 = .ok (.iload_n 2, 1) := by decide +kernel
theorem dX4_setLevel_70 : decode cX4_setLevel 70 = .ok (.iadd, 1) := by decide +kernel
theorem dX4_setLevel_71 : decode cX4_setLevel 71 = .ok (.imul, 1) := by decide +kernel
theorem dX4_setLevel_72 : decode cX4_setLevel 72 = .ok (.iload_n 3, 1) := by decide +kernel
theorem dX4_setLevel_73 : decode cX4_setLevel 73 = .ok (.iadd, 1) := by decide +kernel
theorem dX4_setLevel_74 : decode cX4_setLevel 74 = .ok (.istore 5, 2) := by decide +kernel
theorem dX4_setLevel_76 : decode cX4_setLevel 76 = .ok (.aload_n 0, 1) := by decide +kernel
theorem dX4_setLevel_77 : decode cX4_setLevel 77 = .ok (.getfield 37, 3) := by decide +kernel
theorem dX4_setLevel_80 : decode cX4_setLevel 80 = .ok (.iload 5, 2) := by decide +kernel
theorem dX4_setLevel_82 : decode cX4_setLevel 82 = .ok (.iaload, 1) := by decide +kernel
theorem dX4_setLevel_83 : decode cX4_setLevel 83 = .ok (.iconst 1, 1) := by decide +kernel
theorem dX4_setLevel_84 : decode cX4_setLevel 84 = .ok (.isub, 1) := by decide +kernel
theorem dX4_setLevel_85 : decode cX4_setLevel 85 = .ok (.istore 6, 2) := by decide +kernel
theorem dX4_setLevel_87 : decode cX4_setLevel 87 = .ok (.aload_n 0, 1) := by decide +kernel
theorem dX4_setLevel_88 : decode cX4_setLevel 88 = .ok (.iconst 2, 1) := by decide +kernel
theorem dX4_setLevel_89 : decode cX4_setLevel 89 = .ok (.iload 5, 2) := by decide +kernel
theorem dX4_setLevel_91 : decode cX4_setLevel 91 = .ok (.aload_n 0, 1) := by decide +kernel
theorem dX4_setLevel_92 : decode cX4_setLevel 92 = .ok (.getfield 37, 3) := by decide +kernel
theorem dX4_setLevel_95 : decode cX4_setLevel 95 = .ok (.iload 5, 2) := by decide +kernel
theorem dX4_setLevel_97 : decode cX4_setLevel 97 = .ok (.iaload, 1) := by decide +kernel
theorem dX4_setLevel_98 : decode cX4_setLevel 98 = .ok (.iconst 0, 1) := by decide +kernel
theorem dX4_setLevel_99 : decode cX4_setLevel 99 = .ok (.invokevirtual 86, 3) := by decide +kernel
theorem dX4_setLevel_102 : decode cX4_setLevel 102 = .ok (.aload_n 0, 1) := by decide +kernel
theorem dX4_setLevel_103 : decode cX4_setLevel 103 = .ok (.getfield 37, 3) := by decide +kernel
theorem dX4_setLevel_106 : decode cX4_setLevel 106 = .ok (.iload 5, 2) := by decide +kernel
theorem dX4_setLevel_108 : decode cX4_setLevel 108 = .ok (.iload 4, 2) := by decide +kernel
theorem dX4_setLevel_110 : decode cX4_setLevel 110 = .ok (.iconst 1, 1) := by decide +kernel
theorem dX4_setLevel_111 : decode cX4_setLevel 111 = .ok (.iadd, 1) := by decide +kernel
theorem dX4_setLevel_112 : decode cX4_setLevel 112 = .ok (.iastore, 1) := by decide +kernel
theorem dX4_setLevel_113 : decode cX4_setLevel 113 = .ok (.iload 6, 2) := by decide +kernel
theorem dX4_setLevel_115 : decode cX4_setLevel 115 = .ok (.ireturn, 1) := by decide +kernel
theorem dX4_levelOf_0 : decode cX4_levelOf 0 = .ok (.bipush 12, 2) := by decide +kernel
theorem dX4_levelOf_2 : decode cX4_levelOf 2 = .ok (.iload_n 1, 1) := by decide +kernel
theorem dX4_levelOf_3 : decode cX4_levelOf 3 = .ok (.imul, 1) := by decide +kernel
theorem dX4_levelOf_4 : decode cX4_levelOf 4 = .ok (.iload_n 2, 1) := by decide +kernel
theorem dX4_levelOf_5 : decode cX4_levelOf 5 = .ok (.iadd, 1) := by decide +kernel
theorem dX4_levelOf_6 : decode cX4_levelOf 6 = .ok (.istore_n 3, 1) := by decide +kernel
theorem dX4_levelOf_7 : decode cX4_levelOf 7 = .ok (.aload_n 0, 1) := by decide +kernel
theorem dX4_levelOf_8 : decode cX4_levelOf 8 = .ok (.getfield 49, 3) := by decide +kernel
theorem dX4_levelOf_11 : decode cX4_levelOf 11 = .ok (.iload_n 3, 1) := by decide +kernel
theorem dX4_levelOf_12 : decode cX4_levelOf 12 = .ok (.iaload, 1) := by decide +kernel
theorem dX4_levelOf_13 : decode cX4_levelOf 13 = .ok (.ifCond .ne 10, 3) := by decide +kernel
theorem dX4_levelOf_16 : decode cX4_levelOf 16 = .ok (.aload_n 0, 1) := by decide +kernel
theorem dX4_levelOf_17 : decode cX4_levelOf 17 = .ok (.getfield 46, 3) := by decide +kernel
theorem dX4_levelOf_20 : decode cX4_levelOf 20 = .ok (.iload_n 3, 1) := by decide +kernel
theorem dX4_levelOf_21 : decode cX4_levelOf 21 = .ok (.iaload, 1) := by decide +kernel
theorem dX4_levelOf_22 : decode cX4_levelOf 22 = .ok (.ireturn, 1) := by decide +kernel
theorem dX4_levelOf_23 : decode cX4_levelOf 23 = .ok (.bipush 10, 2) := by decide +kernel
theorem dX4_levelOf_25 : decode cX4_levelOf 25 = .ok (.iload_n 1, 1) := by decide +kernel
theorem dX4_levelOf_26 : decode cX4_levelOf 26 = .ok (.imul, 1) := by decide +kernel
theorem dX4_levelOf_27 : decode cX4_levelOf 27 = .ok (.aload_n 0, 1) := by decide +kernel
theorem dX4_levelOf_28 : decode cX4_levelOf 28 = .ok (.getfield 40, 3) := by decide +kernel
theorem dX4_levelOf_31 : decode cX4_levelOf 31 = .ok (.iload_n 1, 1) := by decide +kernel
theorem dX4_levelOf_32 : decode cX4_levelOf 32 = .ok (.iaload, 1) := by decide +kernel
theorem dX4_levelOf_33 : decode cX4_levelOf 33 = .ok (.iadd, 1) := by decide +kernel
theorem dX4_levelOf_34 : decode cX4_levelOf 34 = .ok (.istore 4, 2) := by decide +kernel
theorem dX4_levelOf_36 : decode cX4_levelOf 36 = .ok (.aload_n 0, 1) := by decide +kernel
theorem dX4_levelOf_37 : decode cX4_levelOf 37 = .ok (.getfield 106, 3) := by decide +kernel
theorem dX4_levelOf_40 : decode cX4_levelOf 40 = .ok (.aload_n 0, 1) := by decide +kernel
theorem dX4_levelOf_41 : decode cX4_levelOf 41 = .ok (.getfield 43, 3) := by decide +kernel
theorem dX4_levelOf_44 : decode cX4_levelOf 44 = .ok (.iload_n 1, 1) := by decide +kernel
theorem dX4_levelOf_45 : decode cX4_levelOf 45 = .ok (.iaload, 1) := by decide +kernel
theorem dX4_levelOf_46 : decode cX4_levelOf 46 = .ok (.isub, 1) := by decide +kernel
theorem dX4_levelOf_47 : decode cX4_levelOf 47 = .ok (.aload_n 0, 1) := by decide +kernel
theorem dX4_levelOf_48 : decode cX4_levelOf 48 = .ok (.getfield 28, 3) := by decide +kernel
theorem dX4_levelOf_51 : decode cX4_levelOf 51 = .ok (.iload 4, 2) := by decide +kernel
theorem dX4_levelOf_53 : decode cX4_levelOf 53 = .ok (.iaload, 1) := by decide +kernel
theorem dX4_levelOf_54 : decode cX4_levelOf 54 = .ok (.isub, 1) := by decide +kernel
theorem dX4_levelOf_55 : decode cX4_levelOf 55 = .ok (.istore 5, 2) := by decide +kernel
theorem dX4_levelOf_57 : decode cX4_levelOf 57 = .ok (.aload_n 0, 1) := by decide +kernel
theorem dX4_levelOf_58 : decode cX4_levelOf 58 = .ok (.getfield 49, 3) := by decide +kernel
theorem dX4_levelOf_61 : decode cX4_levelOf 61 = .ok (.iload_n 3, 1) := by decide +kernel
theorem dX4_levelOf_62 : decode cX4_levelOf 62 = .ok (.iaload, 1) := by decide +kernel
theorem dX4_levelOf_63 : decode cX4_levelOf 63 = .ok (.iconst 1, 1) := by decide +kernel
theorem dX4_levelOf_64 : decode cX4_levelOf 64 = .ok (.isub, 1) := by decide +kernel
theorem dX4_levelOf_65 : decode cX4_levelOf 65 = .ok (.aload_n 0, 1) := by decide +kernel
theorem dX4_levelOf_66 : decode cX4_levelOf 66 = .ok (.getfield 46, 3) := by decide +kernel
theorem dX4_levelOf_69 : decode cX4_levelOf 69 = .ok (.iload_n 3, 1) := by decide +kernel
theorem dX4_levelOf_70 : decode cX4_levelOf 70 = .ok (.iaload, 1) := by decide +kernel
theorem dX4_levelOf_71 : decode cX4_levelOf 71 = .ok (.isub, 1) := by decide +kernel
theorem dX4_levelOf_72 : decode cX4_levelOf 72 = .ok (.istore 6, 2) := by decide +kernel
theorem dX4_levelOf_74 : decode cX4_levelOf 74 = .ok (.iload 5, 2) := by decide +kernel
theorem dX4_levelOf_76 : decode cX4_levelOf 76 = .ok (.ifCond .ge 12, 3) := by decide +kernel
theorem dX4_levelOf_79 : decode cX4_levelOf 79 = .ok (.aload_n 0, 1) := by decide +kernel
theorem dX4_levelOf_80 : decode cX4_levelOf 80 = .ok (.getfield 46, 3) := by decide +kernel
theorem dX4_levelOf_83 : decode cX4_levelOf 83 = .ok (.iload_n 3, 1) := by decide +kernel
theorem dX4_levelOf_84 : decode cX4_levelOf 84 = .ok (.iaload, 1) := by decide +kernel
theorem dX4_levelOf_85 : decode cX4_levelOf 85 = .ok (.goto 46, 3) := by decide +kernel
theorem dX4_levelOf_88 : decode cX4_levelOf 88 = .ok (.iload 5, 2) := by decide +kernel
theorem dX4_levelOf_90 : decode cX4_levelOf 90 = .ok (.aload_n 0, 1) := by decide +kernel
theorem dX4_levelOf_91 : decode cX4_levelOf 91 = .ok (.getfield 31, 3) := by decide +kernel
theorem dX4_levelOf_94 : decode cX4_levelOf 94 = .ok (.iload 4, 2) := by decide +kernel
theorem dX4_levelOf_96 : decode cX4_levelOf 96 = .ok (.iaload, 1) := by decide +kernel
theorem dX4_levelOf_97 : decode cX4_levelOf 97 = .ok (.if_icmp .lt 14, 3) := by decide +kernel
theorem dX4_levelOf_100 : decode cX4_levelOf 100 = .ok (.aload_n 0, 1) := by decide +kernel
theorem dX4_levelOf_101 : decode cX4_levelOf 101 = .ok (.getfield 49, 3) := by decide +kernel
theorem dX4_levelOf_104 : decode cX4_levelOf 104 = .ok (.iload_n 3, 1) := by decide +kernel
theorem dX4_levelOf_105 : decode cX4_levelOf 105 = .ok (.iaload, 1) := by decide +kernel
theorem dX4_levelOf_106 : decode cX4_levelOf 106 = .ok (.iconst 1, 1) := by decide +kernel
theorem dX4_levelOf_107 : decode cX4_levelOf 107 = .ok (.isub, 1) := by decide +kernel
theorem dX4_levelOf_108 : decode cX4_levelOf 108 = .ok (.goto 23, 3) := by decide +kernel
theorem dX4_levelOf_111 : decode cX4_levelOf 111 = .ok (.aload_n 0, 1) := by decide +kernel
theorem dX4_levelOf_112 : decode cX4_levelOf 112 = .ok (.getfield 46, 3) := by decide +kernel
theorem dX4_levelOf_115 : decode cX4_levelOf 115 = .ok (.iload_n 3, 1) := by decide +kernel
theorem dX4_levelOf_116 : decode cX4_levelOf 116 = .ok (.iaload, 1) := by decide +kernel
theorem dX4_levelOf_117 : decode cX4_levelOf 117 = .ok (.iload 6, 2) := by decide +kernel
theorem dX4_levelOf_119 : decode cX4_levelOf 119 = .ok (.iload 5, 2) := by decide +kernel
theorem dX4_levelOf_121 : decode cX4_levelOf 121 = .ok (.imul, 1) := by decide +kernel
theorem dX4_levelOf_122 : decode cX4_levelOf 122 = .ok (.aload_n 0, 1) := by decide +kernel
theorem dX4_levelOf_123 : decode cX4_levelOf 123 = .ok (.getfield 31, 3) := by decide +kernel
theorem dX4_levelOf_126 : decode cX4_levelOf 126 = .ok (.iload 4, 2) := by decide +kernel
theorem dX4_levelOf_128 : decode cX4_levelOf 128 = .ok (.iaload, 1) := by decide +kernel
theorem dX4_levelOf_129 : decode cX4_levelOf 129 = .ok (.idiv, 1) := by decide +kernel
theorem dX4_levelOf_130 : decode cX4_levelOf 130 = .ok (.iadd, 1) := by decide +kernel
theorem dX4_levelOf_131 : decode cX4_levelOf 131 = .ok (.ireturn, 1) := by decide +kernel
set_option maxRecDepth 20000 in
theorem ggX4_begins_X4_levelOf : GoodIn wsX4_begins wsX4_levelOf := goodIn_r _ [12, 2, 1, 5, 7, 6, 13, 14, 15, 16, 17, 18, 19, 20, 21, 22, 23, 24, 25, 26, 27, 28, 29, 30, 31, 32, 33, 34, 35, 36, 37] (by decide +kernel) (by decide +kernel)
set_option maxRecDepth 20000 in
theorem gX4_begins_X4_levelOf : GoodIn wsX4_begins (wsV RX4 109 RX4 yX4_levelOf wsX4_levelOf) := goodIn_app (goodIn_of _ (by decide +kernel)) ggX4_begins_X4_levelOf
theorem dX4_begins_0 : decode cX4_begins 0 = .ok (.iconst 0, 1) := by decide +kernel
theorem dX4_begins_1 : decode cX4_begins 1 = .ok (.istore_n 3, 1) := by decide +kernel
theorem dX4_begins_2 : decode cX4_begins 2 = .ok (.iload_n 3, 1) := by decide +kernel
theorem dX4_begins_3 : decode cX4_begins 3 = .ok (.bipush 12, 2) := by decide +kernel
theorem dX4_begins_5 : decode cX4_begins 5 = .ok (.if_icmp .ge 38, 3) := by decide +kernel
theorem dX4_begins_8 : decode cX4_begins 8 = .ok (.aload_n 0, 1) := by decide +kernel
theorem dX4_begins_9 : decode cX4_begins 9 = .ok (.getfield 46, 3) := by decide +kernel
theorem dX4_begins_12 : decode cX4_begins 12 = .ok (.bipush 12, 2) := by decide +kernel
theorem dX4_begins_14 : decode cX4_begins 14 = .ok (.iload_n 1, 1) := by decide +kernel
theorem dX4_begins_15 : decode cX4_begins 15 = .ok (.imul, 1) := by decide +kernel
theorem dX4_begins_16 : decode cX4_begins 16 = .ok (.iload_n 3, 1) := by decide +kernel
theorem dX4_begins_17 : decode cX4_begins 17 = .ok (.iadd, 1) := by decide +kernel
theorem dX4_begins_18 : decode cX4_begins 18 = .ok (.aload_n 0, 1) := by decide +kernel
theorem dX4_begins_19 : decode cX4_begins 19 = .ok (.iload_n 1, 1) := by decide +kernel
theorem dX4_begins_20 : decode cX4_begins 20 = .ok (.iload_n 3, 1) := by decide +kernel
theorem dX4_begins_21 : decode cX4_begins 21 = .ok (.invokevirtual 109, 3) := by decide +kernel
theorem dX4_begins_24 : decode cX4_begins 24 = .ok (.iastore, 1) := by decide +kernel
theorem dX4_begins_25 : decode cX4_begins 25 = .ok (.aload_n 0, 1) := by decide +kernel
theorem dX4_begins_26 : decode cX4_begins 26 = .ok (.getfield 49, 3) := by decide +kernel
theorem dX4_begins_29 : decode cX4_begins 29 = .ok (.bipush 12, 2) := by decide +kernel
theorem dX4_begins_31 : decode cX4_begins 31 = .ok (.iload_n 1, 1) := by decide +kernel
theorem dX4_begins_32 : decode cX4_begins 32 = .ok (.imul, 1) := by decide +kernel
theorem dX4_begins_33 : decode cX4_begins 33 = .ok (.iload_n 3, 1) := by decide +kernel
theorem dX4_begins_34 : decode cX4_begins 34 = .ok (.iadd, 1) := by decide +kernel
theorem dX4_begins_35 : decode cX4_begins 35 = .ok (.iconst 0, 1) := by decide +kernel
theorem dX4_begins_36 : decode cX4_begins 36 = .ok (.iastore, 1) := by decide +kernel
theorem dX4_begins_37 : decode cX4_begins 37 = .ok (.iinc 3 1, 3) := by decide +kernel
theorem dX4_begins_40 : decode cX4_begins 40 = .ok (.goto (-38), 3) := by decide +kernel
theorem dX4_begins_43 : decode cX4_begins 43 = .ok (.iconst 0, 1) := by decide +kernel
theorem dX4_begins_44 : decode cX4_begins 44 = .ok (.istore_n 3, 1) := by decide +kernel
theorem dX4_begins_45 : decode cX4_begins 45 = .ok (.iload_n 3, 1) := by decide +kernel
theorem dX4_begins_46 : decode cX4_begins 46 = .ok (.bipush 12, 2) := by decide +kernel
theorem dX4_begins_48 : decode cX4_begins 48 = .ok (.if_icmp .ge 61, 3) := by decide +kernel
theorem dX4_begins_51 : decode cX4_begins 51 = .ok (.aload_n 0, 1) := by decide +kernel
theorem dX4_begins_52 : decode cX4_begins 52 = .ok (.getfield 37, 3) := by decide +kernel
theorem dX4_begins_55 : decode cX4_begins 55 = .ok (.bipush 12, 2) := by decide +kernel
theorem dX4_begins_57 : decode cX4_begins 57 = .ok (.bipush 10, 2) := by decide +kernel
theorem dX4_begins_59 : decode cX4_begins 59 = .ok (.iload_n 1, 1) := by decide +kernel
theorem dX4_begins_60 : decode cX4_begins 60 = .ok (.imul, 1) := by decide +kernel
theorem dX4_begins_61 : decode cX4_begins 61 = .ok (.iload_n 2, 1) := by decide +kernel
theorem dX4_begins_62 : decode cX4_begins 62 = .ok (.iadd, 1) := by decide +kernel
theorem dX4_begins_63 : decode cX4_begins 63 = .ok (.imul, 1) := by decide +kernel
theorem dX4_begins_64 : decode cX4_begins 64 = .ok (.iload_n 3, 1) := by decide +kernel
theorem dX4_begins_65 : decode cX4_begins 65 = .ok (.iadd, 1) := by decide +kernel
theorem dX4_begins_66 : decode cX4_begins 66 = .ok (.iaload, 1) := by decide +kernel
theorem dX4_begins_67 : decode cX4_begins 67 = .ok (.istore 4, 2) := by decide +kernel
theorem dX4_begins_69 : decode cX4_begins 69 = .ok (.aload_n 0, 1) := by decide +kernel
theorem dX4_begins_70 : decode cX4_begins 70 = .ok (.getfield 49, 3) := by decide +kernel
theorem dX4_begins_73 : decode cX4_begins 73 = .ok (.bipush 12, 2) := by decide +kernel
theorem dX4_begins_75 : decode cX4_begins 75 = .ok (.iload_n 1, 1) := by decide +kernel
theorem dX4_begins_76 : decode cX4_begins 76 = .ok (.imul, 1) := by decide +kernel
theorem dX4_begins_77 : decode cX4_begins 77 = .ok (.iload_n 3, 1) := by decide +kernel
theorem dX4_begins_78 : decode cX4_begins 78 = .ok (.iadd, 1) := by decide +kernel
theorem dX4_begins_79 : decode cX4_begins 79 = .ok (.iload 4, 2) := by decide +kernel
theorem dX4_begins_81 : decode cX4_begins 81 = .ok (.iastore, 1) := by decide +kernel
theorem dX4_begins_82 : decode cX4_begins 82 = .ok (.aload_n 0, 1) := by decide +kernel
theorem dX4_begins_83 : decode cX4_begins 83 = .ok (.getfield 22, 3) := by decide +kernel
theorem dX4_begins_86 : decode cX4_begins 86 = .ok (.iload_n 3, 1) := by decide +kernel
theorem dX4_begins_87 : decode cX4_begins 87 = .ok (.iload 4, 2) := by decide +kernel
theorem dX4_begins_89 : decode cX4_begins 89 = .ok (.ifCond .le 7, 3) := by decide +kernel
theorem dX4_begins_92 : decode cX4_begins 92 = .ok (.iload_n 1, 1) := by decide +kernel
theorem dX4_begins_93 : decode cX4_begins 93 = .ok (.goto 9, 3) := by decide +kernel
theorem dX4_begins_96 : decode cX4_begins 96 = .ok (.aload_n 0, 1) := by decide +kernel
theorem dX4_begins_97 : decode cX4_begins 97 = .ok (.getfield 22, 3) := by decide +kernel
theorem dX4_begins_100 : decode cX4_begins 100 = .ok (.iload_n 3, 1) := by decide +kernel
theorem dX4_begins_101 : decode cX4_begins 101 = .ok (.iaload, 1) := by decide +kernel
theorem dX4_begins_102 : decode cX4_begins 102 = .ok (.iastore, 1) := by decide +kernel
theorem dX4_begins_103 : decode cX4_begins 103 = .ok (.iinc 3 1, 3) := by decide +kernel
theorem dX4_begins_106 : decode cX4_begins 106 = .ok (.goto (-61), 3) := by decide +kernel
theorem dX4_begins_109 : decode cX4_begins 109 = .ok (.aload_n 0, 1) := by decide +kernel
theorem dX4_begins_110 : decode cX4_begins 110 = .ok (.getfield 40, 3) := by decide +kernel
theorem dX4_begins_113 : decode cX4_begins 113 = .ok (.iload_n 1, 1) := by decide +kernel
theorem dX4_begins_114 : decode cX4_begins 114 = .ok (.iload_n 2, 1) := by decide +kernel
theorem dX4_begins_115 : decode cX4_begins 115 = .ok (.iastore, 1) := by decide +kernel
theorem dX4_begins_116 : decode cX4_begins 116 = .ok (.aload_n 0, 1) := by decide +kernel
theorem dX4_begins_117 : decode cX4_begins 117 = .ok (.getfield 43, 3) := by decide +kernel
theorem dX4_begins_120 : decode cX4_begins 120 = .ok (.iload_n 1, 1) := by decide +kernel
theorem dX4_begins_121 : decode cX4_begins 121 = .ok (.aload_n 0, 1) := by decide +kernel
theorem dX4_begins_122 : decode cX4_begins 122 = .ok (.getfield 106, 3) := by decide +kernel
theorem dX4_begins_125 : decode cX4_begins 125 = .ok (.iastore, 1) := by decide +kernel
theorem dX4_begins_126 : decode cX4_begins 126 = .ok (.return_, 1) := by decide +kernel
set_option maxRecDepth 20000 in
theorem ggX4_looks_X4_begins : GoodIn wsX4_looks wsX4_begins := goodIn_r _ [12, 13, 14, 15, 16, 1, 2, 5, 17, 18, 19, 11, 20, 3, 4, 21, 22, 23, 24, 25, 26, 27, 28, 29, 30, 31, 32, 33, 34, 35, 36, 37, 38, 39, 40, 41, 42, 43] (by decide +kernel) (by decide +kernel)
set_option maxRecDepth 20000 in
theorem gX4_looks_X4_begins : GoodIn wsX4_looks (wsV RX4 113 RX4 yX4_begins wsX4_begins) := goodIn_app (goodIn_of _ (by decide +kernel)) ggX4_looks_X4_begins
theorem dX4_looks_0 : decode cX4_looks 0 = .ok (.iconst 0, 1) := by decide +kernel
theorem dX4_looks_1 : decode cX4_looks 1 = .ok (.istore_n 2, 1) := by decide +kernel
theorem dX4_looks_2 : decode cX4_looks 2 = .ok (.iconst 1, 1) := by decide +kernel
theorem dX4_looks_3 : decode cX4_looks 3 = .ok (.istore_n 3, 1) := by decide +kernel
theorem dX4_looks_4 : decode cX4_looks 4 = .ok (.iload_n 3, 1) := by decide +kernel
theorem dX4_looks_5 : decode cX4_looks 5 = .ok (.ifCond .eq 114, 3) := by decide +kernel
theorem dX4_looks_8 : decode cX4_looks 8 = .ok (.bipush 10, 2) := by decide +kernel
theorem dX4_looks_10 : decode cX4_looks 10 = .ok (.iload_n 1, 1) := by decide +kernel
theorem dX4_looks_11 : decode cX4_looks 11 = .ok (.imul, 1) := by decide +kernel
theorem dX4_looks_12 : decode cX4_looks 12 = .ok (.aload_n 0, 1) := by decide +kernel
theorem dX4_looks_13 : decode cX4_looks 13 = .ok (.getfield 40, 3) := by decide +kernel
theorem dX4_looks_16 : decode cX4_looks 16 = .ok (.iload_n 1, 1) := by decide +kernel
theorem dX4_looks_17 : decode cX4_looks 17 = .ok (.iaload, 1) := by decide +kernel
theorem dX4_looks_18 : decode cX4_looks 18 = .ok (.iadd, 1) := by decide +kernel
theorem dX4_looks_19 : decode cX4_looks 19 = .ok (.istore 4, 2) := by decide +kernel
theorem dX4_looks_21 : decode cX4_looks 21 = .ok (.aload_n 0, 1) := by decide +kernel
theorem dX4_looks_22 : decode cX4_looks 22 = .ok (.getfield 40, 3) := by decide +kernel
theorem dX4_looks_25 : decode cX4_looks 25 = .ok (.iload_n 1, 1) := by decide +kernel
theorem dX4_looks_26 : decode cX4_looks 26 = .ok (.iaload, 1) := by decide +kernel
theorem dX4_looks_27 : decode cX4_looks 27 = .ok (.iconst (-1), 1) := by decide +kernel
theorem dX4_looks_28 : decode cX4_looks 28 = .ok (.if_icmp .eq 66, 3) := by decide +kernel
theorem dX4_looks_31 : decode cX4_looks 31 = .ok (.aload_n 0, 1) := by decide +kernel
theorem dX4_looks_32 : decode cX4_looks 32 = .ok (.getfield 43, 3) := by decide +kernel
theorem dX4_looks_35 : decode cX4_looks 35 = .ok (.iload_n 1, 1) := by decide +kernel
theorem dX4_looks_36 : decode cX4_looks 36 = .ok (.iaload, 1) := by decide +kernel
theorem dX4_looks_37 : decode cX4_looks 37 = .ok (.aload_n 0, 1) := by decide +kernel
theorem dX4_looks_38 : decode cX4_looks 38 = .ok (.getfield 28, 3) := by decide +kernel
theorem dX4_looks_41 : decode cX4_looks 41 = .ok (.iload 4, 2) := by decide +kernel
theorem dX4_looks_43 : decode cX4_looks 43 = .ok (.iaload, 1) := by decide +kernel
theorem dX4_looks_44 : decode cX4_looks 44 = .ok (.iadd, 1) := by decide +kernel
theorem dX4_looks_45 : decode cX4_looks 45 = .ok (.aload_n 0, 1) := by decide +kernel
theorem dX4_looks_46 : decode cX4_looks 46 = .ok (.getfield 31, 3) := by decide +kernel
theorem dX4_looks_49 : decode cX4_looks 49 = .ok (.iload 4, 2) := by decide +kernel
theorem dX4_looks_51 : decode cX4_looks 51 = .ok (.iaload, 1) := by decide +kernel
theorem dX4_looks_52 : decode cX4_looks 52 = .ok (.iadd, 1) := by decide +kernel
theorem dX4_looks_53 : decode cX4_looks 53 = .ok (.aload_n 0, 1) := by decide +kernel
theorem dX4_looks_54 : decode cX4_looks 54 = .ok (.getfield 106, 3) := by decide +kernel
theorem dX4_looks_57 : decode cX4_looks 57 = .ok (.if_icmp .ne 37, 3) := by decide +kernel
theorem dX4_looks_60 : decode cX4_looks 60 = .ok (.aload_n 0, 1) := by decide +kernel
theorem dX4_looks_61 : decode cX4_looks 61 = .ok (.getfield 40, 3) := by decide +kernel
theorem dX4_looks_64 : decode cX4_looks 64 = .ok (.iload_n 1, 1) := by decide +kernel
theorem dX4_looks_65 : decode cX4_looks 65 = .ok (.iaload, 1) := by decide +kernel
theorem dX4_looks_66 : decode cX4_looks 66 = .ok (.iconst 1, 1) := by decide +kernel
theorem dX4_looks_67 : decode cX4_looks 67 = .ok (.iadd, 1) := by decide +kernel
theorem dX4_looks_68 : decode cX4_looks 68 = .ok (.aload_n 0, 1) := by decide +kernel
theorem dX4_looks_69 : decode cX4_looks 69 = .ok (.getfield 25, 3) := by decide +kernel
theorem dX4_looks_72 : decode cX4_looks 72 = .ok (.iload_n 1, 1) := by decide +kernel
theorem dX4_looks_73 : decode cX4_looks 73 = .ok (.iaload, 1) := by decide +kernel
theorem dX4_looks_74 : decode cX4_looks 74 = .ok (.if_icmp .ge 20, 3) := by decide +kernel
theorem dX4_looks_77 : decode cX4_looks 77 = .ok (.aload_n 0, 1) := by decide +kernel
theorem dX4_looks_78 : decode cX4_looks 78 = .ok (.getfield 34, 3) := by decide +kernel
theorem dX4_looks_81 : decode cX4_looks 81 = .ok (.iload 4, 2) := by decide +kernel
theorem dX4_looks_83 : decode cX4_looks 83 = .ok (.iconst 1, 1) := by decide +kernel
theorem dX4_looks_84 : decode cX4_looks 84 = .ok (.iadd, 1) := by decide +kernel
theorem dX4_looks_85 : decode cX4_looks 85 = .ok (.iaload, 1) := by decide +kernel
theorem dX4_looks_86 : decode cX4_looks 86 = .ok (.iconst 1, 1) := by decide +kernel
theorem dX4_looks_87 : decode cX4_looks 87 = .ok (.if_icmp .ne 7, 3) := by decide +kernel
theorem dX4_looks_90 : decode cX4_looks 90 = .ok (.iconst 1, 1) := by decide +kernel
theorem dX4_looks_91 : decode cX4_looks 91 = .ok (.goto 4, 3) := by decide +kernel
theorem dX4_looks_94 : decode cX4_looks 94 = .ok (.iconst 0, 1) := by decide +kernel
theorem dX4_looks_95 : decode cX4_looks 95 = .ok (.istore_n 3, 1) := by decide +kernel
theorem dX4_looks_96 : decode cX4_looks 96 = .ok (.iload_n 3, 1) := by decide +kernel
theorem dX4_looks_97 : decode cX4_looks 97 = .ok (.ifCond .eq 19, 3) := by decide +kernel
theorem dX4_looks_100 : decode cX4_looks 100 = .ok (.aload_n 0, 1) := by decide +kernel
theorem dX4_looks_101 : decode cX4_looks 101 = .ok (.iload_n 1, 1) := by decide +kernel
theorem dX4_looks_102 : decode cX4_looks 102 = .ok (.aload_n 0, 1) := by decide +kernel
theorem dX4_looks_103 : decode cX4_looks 103 = .ok (.getfield 40, 3) := by decide +kernel
theorem dX4_looks_106 : decode cX4_looks 106 = .ok (.iload_n 1, 1) := by decide +kernel
theorem dX4_looks_107 : decode cX4_looks 107 = .ok (.iaload, 1) := by decide +kernel
theorem dX4_looks_108 : decode cX4_looks 108 = .ok (.iconst 1, 1) := by decide +kernel
theorem dX4_looks_109 : decode cX4_looks 109 = .ok (.iadd, 1) := by decide +kernel
theorem dX4_looks_110 : decode cX4_looks 110 = .ok (.invokevirtual 113, 3) := by decide +kernel
theorem dX4_looks_113 : decode cX4_looks 113 = .ok (.iinc 2 1, 3) := by decide +kernel
theorem dX4_looks_116 : decode cX4_looks 116 = .ok (.goto (-112), 3) := by decide +kernel
theorem dX4_looks_119 : decode cX4_looks 119 = .ok (.iload_n 2, 1) := by decide +kernel
theorem dX4_looks_120 : decode cX4_looks 120 = .ok (.ireturn, 1) := by decide +kernel
set_option maxRecDepth 20000 in
theorem ggX4_go_X4_isList : GoodIn wsX4_go wsX4_isList := goodIn_r _ [7, 8, 9, 6, 10] (by decide +kernel) (by decide +kernel)
set_option maxRecDepth 20000 in
theorem gX4_go_X4_isList : GoodIn wsX4_go (va_wsS RX4 99 yX4_isList wsX4_isList) := goodIn_app (goodIn_of _ (by decide +kernel)) ggX4_go_X4_isList
set_option maxRecDepth 20000 in
theorem ggX4_go_X4_in : GoodIn wsX4_go wsX4_in := goodIn_r _ [10] (by decide +kernel) (by decide +kernel)
set_option maxRecDepth 20000 in
theorem gX4_go_X4_in : GoodIn wsX4_go (va_wsS RX4 68 yX4_in wsX4_in) := goodIn_app (goodIn_of _ (by decide +kernel)) ggX4_go_X4_in
set_option maxRecDepth 20000 in
theorem ggX4_go_X4_begins : GoodIn wsX4_go wsX4_begins := goodIn_r _ [14, 15, 16, 3, 17, 18, 19, 20, 21, 22, 23, 6, 24, 25, 26, 32, 33, 34, 35, 36, 37, 38, 39, 40, 41, 42, 43, 44, 45, 46, 47, 48, 49, 50, 51, 52, 53, 54] (by decide +kernel) (by decide +kernel)
set_option maxRecDepth 20000 in
theorem gX4_go_X4_begins : GoodIn wsX4_go (wsV RX4 113 RX4 yX4_begins wsX4_begins) := goodIn_app (goodIn_of _ (by decide +kernel)) ggX4_go_X4_begins
set_option maxRecDepth 20000 in
theorem ggX4_go_X4_looks : GoodIn wsX4_go wsX4_looks := goodIn_r _ [30, 18, 19, 25, 26, 20, 1, 31, 11, 12, 13, 6, 14, 15, 16, 3, 17, 21, 22, 23, 24, 32, 33, 34, 35, 36, 37, 38, 39, 40, 41, 42, 43, 44, 45, 46, 47, 48, 49, 50, 51, 52, 53, 54] (by decide +kernel) (by decide +kernel)
set_option maxRecDepth 20000 in
theorem gX4_go_X4_looks : GoodIn wsX4_go (wsV RX4 117 RX4 yX4_looks wsX4_looks) := goodIn_app (goodIn_of _ (by decide +kernel)) ggX4_go_X4_looks
theorem dX4_go_0 : decode cX4_go 0 = .ok (.aload_n 0, 1) := by decide +kernel
theorem dX4_go_1 : decode cX4_go 1 = .ok (.iload_n 1, 1) := by decide +kernel
theorem dX4_go_2 : decode cX4_go 2 = .ok (.invokestatic 99, 3) := by decide +kernel
theorem dX4_go_5 : decode cX4_go 5 = .ok (.ifCond .ne 7, 3) := by decide +kernel
theorem dX4_go_8 : decode cX4_go 8 = .ok (.iconst 1, 1) := by decide +kernel
theorem dX4_go_9 : decode cX4_go 9 = .ok (.goto 24, 3) := by decide +kernel
theorem dX4_go_12 : decode cX4_go 12 = .ok (.iload_n 2, 1) := by decide +kernel
theorem dX4_go_13 : decode cX4_go 13 = .ok (.iconst 0, 1) := by decide +kernel
theorem dX4_go_14 : decode cX4_go 14 = .ok (.aload_n 0, 1) := by decide +kernel
theorem dX4_go_15 : decode cX4_go 15 = .ok (.getfield 25, 3) := by decide +kernel
theorem dX4_go_18 : decode cX4_go 18 = .ok (.iload_n 1, 1) := by decide +kernel
theorem dX4_go_19 : decode cX4_go 19 = .ok (.iaload, 1) := by decide +kernel
theorem dX4_go_20 : decode cX4_go 20 = .ok (.iconst 1, 1) := by decide +kernel
theorem dX4_go_21 : decode cX4_go 21 = .ok (.isub, 1) := by decide +kernel
theorem dX4_go_22 : decode cX4_go 22 = .ok (.invokestatic 68, 3) := by decide +kernel
theorem dX4_go_25 : decode cX4_go 25 = .ok (.ifCond .ne 7, 3) := by decide +kernel
theorem dX4_go_28 : decode cX4_go 28 = .ok (.iconst 2, 1) := by decide +kernel
theorem dX4_go_29 : decode cX4_go 29 = .ok (.goto 4, 3) := by decide +kernel
theorem dX4_go_32 : decode cX4_go 32 = .ok (.iconst 0, 1) := by decide +kernel
theorem dX4_go_33 : decode cX4_go 33 = .ok (.putfield 64, 3) := by decide +kernel
theorem dX4_go_36 : decode cX4_go 36 = .ok (.aload_n 0, 1) := by decide +kernel
theorem dX4_go_37 : decode cX4_go 37 = .ok (.getfield 64, 3) := by decide +kernel
theorem dX4_go_40 : decode cX4_go 40 = .ok (.ifCond .le 5, 3) := by decide +kernel
theorem dX4_go_43 : decode cX4_go 43 = .ok (.iconst 0, 1) := by decide +kernel
theorem dX4_go_44 : decode cX4_go 44 = .ok (.ireturn, 1) := by decide +kernel
theorem dX4_go_45 : decode cX4_go 45 = .ok (.iconst 0, 1) := by decide +kernel
theorem dX4_go_46 : decode cX4_go 46 = .ok (.istore_n 3, 1) := by decide +kernel
theorem dX4_go_47 : decode cX4_go 47 = .ok (.iconst 0, 1) := by decide +kernel
theorem dX4_go_48 : decode cX4_go 48 = .ok (.istore 4, 2) := by decide +kernel
theorem dX4_go_50 : decode cX4_go 50 = .ok (.iload 4, 2) := by decide +kernel
theorem dX4_go_52 : decode cX4_go 52 = .ok (.bipush 12, 2) := by decide +kernel
theorem dX4_go_54 : decode cX4_go 54 = .ok (.if_icmp .ge 37, 3) := by decide +kernel
theorem dX4_go_57 : decode cX4_go 57 = .ok (.iload_n 3, 1) := by decide +kernel
theorem dX4_go_58 : decode cX4_go 58 = .ok (.aload_n 0, 1) := by decide +kernel
theorem dX4_go_59 : decode cX4_go 59 = .ok (.getfield 37, 3) := by decide +kernel
theorem dX4_go_62 : decode cX4_go 62 = .ok (.bipush 12, 2) := by decide +kernel
theorem dX4_go_64 : decode cX4_go 64 = .ok (.bipush 10, 2) := by decide +kernel
theorem dX4_go_66 : decode cX4_go 66 = .ok (.iload_n 1, 1) := by decide +kernel
theorem dX4_go_67 : decode cX4_go 67 = .ok (.imul, 1) := by decide +kernel
theorem dX4_go_68 : decode cX4_go 68 = .ok (.iload_n 2, 1) := by decide +kernel
theorem dX4_go_69 : decode cX4_go 69 = .ok (.iadd, 1) := by decide +kernel
theorem dX4_go_70 : decode cX4_go 70 = .ok (.imul, 1) := by decide +kernel
theorem dX4_go_71 : decode cX4_go 71 = .ok (.iload 4, 2) := by decide +kernel
theorem dX4_go_73 : decode cX4_go 73 = .ok (.iadd, 1) := by decide +kernel
theorem dX4_go_74 : decode cX4_go 74 = .ok (.iaload, 1) := by decide +kernel
theorem dX4_go_75 : decode cX4_go 75 = .ok (.ifCond .le 7, 3) := by decide +kernel
theorem dX4_go_78 : decode cX4_go 78 = .ok (.iconst 1, 1) := by decide +kernel
theorem dX4_go_79 : decode cX4_go 79 = .ok (.goto 4, 3) := by decide +kernel
theorem dX4_go_82 : decode cX4_go 82 = .ok (.iconst 0, 1) := by decide +kernel
theorem dX4_go_83 : decode cX4_go 83 = .ok (.iadd, 1) := by decide +kernel
theorem dX4_go_84 : decode cX4_go 84 = .ok (.istore_n 3, 1) := by decide +kernel
theorem dX4_go_85 : decode cX4_go 85 = .ok (.iinc 4 1, 3) := by decide +kernel
theorem dX4_go_88 : decode cX4_go 88 = .ok (.goto (-38), 3) := by decide +kernel
theorem dX4_go_91 : decode cX4_go 91 = .ok (.aload_n 0, 1) := by decide +kernel
theorem dX4_go_92 : decode cX4_go 92 = .ok (.iload_n 1, 1) := by decide +kernel
theorem dX4_go_93 : decode cX4_go 93 = .ok (.iload_n 2, 1) := by decide +kernel
theorem dX4_go_94 : decode cX4_go 94 = .ok (.invokevirtual 113, 3) := by decide +kernel
theorem dX4_go_97 : decode cX4_go 97 = .ok (.aload_n 0, 1) := by decide +kernel
theorem dX4_go_98 : decode cX4_go 98 = .ok (.iload_n 1, 1) := by decide +kernel
theorem dX4_go_99 : decode cX4_go 99 = .ok (.invokevirtual 117, 3) := by decide +kernel
theorem dX4_go_102 : decode cX4_go 102 = .ok (.pop, 1) := by decide +kernel
theorem dX4_go_103 : decode cX4_go 103 = .ok (.iload_n 3, 1) := by decide +kernel
theorem dX4_go_104 : decode cX4_go 104 = .ok (.ireturn, 1) := by decide +kernel
set_option maxRecDepth 20000 in
theorem ggX4_pass_X4_in : GoodIn wsX4_pass wsX4_in := goodIn_r _ [6] (by decide +kernel) (by decide +kernel)
set_option maxRecDepth 20000 in
theorem gX4_pass_X4_in : GoodIn wsX4_pass (va_wsS RX4 68 yX4_in wsX4_in) := goodIn_app (goodIn_of _ (by decide +kernel)) ggX4_pass_X4_in
set_option maxRecDepth 20000 in
theorem ggX4_pass_X4_looks : GoodIn wsX4_pass wsX4_looks := goodIn_r _ [10, 11, 12, 13, 14, 2, 15, 16, 17, 18, 19, 5, 20, 21, 22, 23, 24, 25, 26, 27, 28, 29, 30, 31, 32, 33, 34, 35, 36, 37, 38, 39, 40, 41, 42, 43, 44, 45, 46, 47, 48, 49, 50, 51] (by decide +kernel) (by decide +kernel)
set_option maxRecDepth 20000 in
theorem gX4_pass_X4_looks : GoodIn wsX4_pass (wsV RX4 117 RX4 yX4_looks wsX4_looks) := goodIn_app (goodIn_of _ (by decide +kernel)) ggX4_pass_X4_looks
theorem dX4_pass_0 : decode cX4_pass 0 = .ok (.aload_n 0, 1) := by decide +kernel
theorem dX4_pass_1 : decode cX4_pass 1 = .ok (.iload_n 1, 1) := by decide +kernel
theorem dX4_pass_2 : decode cX4_pass 2 = .ok (.iconst 1, 1) := by decide +kernel
theorem dX4_pass_3 : decode cX4_pass 3 = .ok (.sipush 1000, 3) := by decide +kernel
theorem dX4_pass_6 : decode cX4_pass 6 = .ok (.invokestatic 68, 3) := by decide +kernel
theorem dX4_pass_9 : decode cX4_pass 9 = .ok (.ifCond .eq 7, 3) := by decide +kernel
theorem dX4_pass_12 : decode cX4_pass 12 = .ok (.iconst 0, 1) := by decide +kernel
theorem dX4_pass_13 : decode cX4_pass 13 = .ok (.goto 4, 3) := by decide +kernel
theorem dX4_pass_16 : decode cX4_pass 16 = .ok (.iconst 1, 1) := by decide +kernel
theorem dX4_pass_17 : decode cX4_pass 17 = .ok (.putfield 64, 3) := by decide +kernel
theorem dX4_pass_20 : decode cX4_pass 20 = .ok (.iconst 0, 1) := by decide +kernel
theorem dX4_pass_21 : decode cX4_pass 21 = .ok (.istore_n 2, 1) := by decide +kernel
theorem dX4_pass_22 : decode cX4_pass 22 = .ok (.iconst 0, 1) := by decide +kernel
theorem dX4_pass_23 : decode cX4_pass 23 = .ok (.istore_n 3, 1) := by decide +kernel
theorem dX4_pass_24 : decode cX4_pass 24 = .ok (.iload_n 3, 1) := by decide +kernel
theorem dX4_pass_25 : decode cX4_pass 25 = .ok (.iload_n 1, 1) := by decide +kernel
theorem dX4_pass_26 : decode cX4_pass 26 = .ok (.if_icmp .ge 42, 3) := by decide +kernel
theorem dX4_pass_29 : decode cX4_pass 29 = .ok (.aload_n 0, 1) := by decide +kernel
theorem dX4_pass_30 : decode cX4_pass 30 = .ok (.getfield 64, 3) := by decide +kernel
theorem dX4_pass_33 : decode cX4_pass 33 = .ok (.ifCond .ne 35, 3) := by decide +kernel
theorem dX4_pass_36 : decode cX4_pass 36 = .ok (.aload_n 0, 1) := by decide +kernel
theorem dX4_pass_37 : decode cX4_pass 37 = .ok (.dup, 1) := by decide +kernel
theorem dX4_pass_38 : decode cX4_pass 38 = .ok (.getfield 106, 3) := by decide +kernel
theorem dX4_pass_41 : decode cX4_pass 41 = .ok (.iconst 1, 1) := by decide +kernel
theorem dX4_pass_42 : decode cX4_pass 42 = .ok (.iadd, 1) := by decide +kernel
theorem dX4_pass_43 : decode cX4_pass 43 = .ok (.putfield 106, 3) := by decide +kernel
theorem dX4_pass_46 : decode cX4_pass 46 = .ok (.iload_n 2, 1) := by decide +kernel
theorem dX4_pass_47 : decode cX4_pass 47 = .ok (.aload_n 0, 1) := by decide +kernel
theorem dX4_pass_48 : decode cX4_pass 48 = .ok (.iconst 0, 1) := by decide +kernel
theorem dX4_pass_49 : decode cX4_pass 49 = .ok (.invokevirtual 117, 3) := by decide +kernel
theorem dX4_pass_52 : decode cX4_pass 52 = .ok (.iadd, 1) := by decide +kernel
theorem dX4_pass_53 : decode cX4_pass 53 = .ok (.istore_n 2, 1) := by decide +kernel
theorem dX4_pass_54 : decode cX4_pass 54 = .ok (.iload_n 2, 1) := by decide +kernel
theorem dX4_pass_55 : decode cX4_pass 55 = .ok (.aload_n 0, 1) := by decide +kernel
theorem dX4_pass_56 : decode cX4_pass 56 = .ok (.iconst 1, 1) := by decide +kernel
theorem dX4_pass_57 : decode cX4_pass 57 = .ok (.invokevirtual 117, 3) := by decide +kernel
theorem dX4_pass_60 : decode cX4_pass 60 = .ok (.iadd, 1) := by decide +kernel
theorem dX4_pass_61 : decode cX4_pass 61 = .ok (.istore_n 2, 1) := by decide +kernel
theorem dX4_pass_62 : decode cX4_pass 62 = .ok (.iinc 3 1, 3) := by decide +kernel
theorem dX4_pass_65 : decode cX4_pass 65 = .ok (.goto (-41), 3) := by decide +kernel
theorem dX4_pass_68 : decode cX4_pass 68 = .ok (.iload_n 2, 1) := by decide +kernel
theorem dX4_pass_69 : decode cX4_pass 69 = .ok (.ireturn, 1) := by decide +kernel
set_option maxRecDepth 20000 in
theorem ggX4_running_X4_isList : GoodIn wsX4_running wsX4_isList := goodIn_r _ [6, 7, 8, 5, 9] (by decide +kernel) (by decide +kernel)
set_option maxRecDepth 20000 in
theorem gX4_running_X4_isList : GoodIn wsX4_running (va_wsS RX4 99 yX4_isList wsX4_isList) := goodIn_app (goodIn_of _ (by decide +kernel)) ggX4_running_X4_isList
theorem dX4_running_0 : decode cX4_running 0 = .ok (.aload_n 0, 1) := by decide +kernel
theorem dX4_running_1 : decode cX4_running 1 = .ok (.iload_n 1, 1) := by decide +kernel
theorem dX4_running_2 : decode cX4_running 2 = .ok (.invokestatic 99, 3) := by decide +kernel
theorem dX4_running_5 : decode cX4_running 5 = .ok (.ifCond .eq 7, 3) := by decide +kernel
theorem dX4_running_8 : decode cX4_running 8 = .ok (.iconst 0, 1) := by decide +kernel
theorem dX4_running_9 : decode cX4_running 9 = .ok (.goto 4, 3) := by decide +kernel
theorem dX4_running_12 : decode cX4_running 12 = .ok (.iconst 1, 1) := by decide +kernel
theorem dX4_running_13 : decode cX4_running 13 = .ok (.putfield 64, 3) := by decide +kernel
theorem dX4_running_16 : decode cX4_running 16 = .ok (.aload_n 0, 1) := by decide +kernel
theorem dX4_running_17 : decode cX4_running 17 = .ok (.getfield 64, 3) := by decide +kernel
theorem dX4_running_20 : decode cX4_running 20 = .ok (.ifCond .ne 12, 3) := by decide +kernel
theorem dX4_running_23 : decode cX4_running 23 = .ok (.aload_n 0, 1) := by decide +kernel
theorem dX4_running_24 : decode cX4_running 24 = .ok (.getfield 40, 3) := by decide +kernel
theorem dX4_running_27 : decode cX4_running 27 = .ok (.iload_n 1, 1) := by decide +kernel
theorem dX4_running_28 : decode cX4_running 28 = .ok (.iaload, 1) := by decide +kernel
theorem dX4_running_29 : decode cX4_running 29 = .ok (.goto 4, 3) := by decide +kernel
theorem dX4_running_32 : decode cX4_running 32 = .ok (.iconst 0, 1) := by decide +kernel
theorem dX4_running_33 : decode cX4_running 33 = .ok (.ireturn, 1) := by decide +kernel
set_option maxRecDepth 20000 in
theorem ggX4_level_X4_isList : GoodIn wsX4_level wsX4_isList := goodIn_r _ [5, 6, 7, 4, 8] (by decide +kernel) (by decide +kernel)
set_option maxRecDepth 20000 in
theorem gX4_level_X4_isList : GoodIn wsX4_level (va_wsS RX4 99 yX4_isList wsX4_isList) := goodIn_app (goodIn_of _ (by decide +kernel)) ggX4_level_X4_isList
set_option maxRecDepth 20000 in
theorem ggX4_level_X4_isChannel : GoodIn wsX4_level wsX4_isChannel := goodIn_r _ [11, 6, 7, 4, 8] (by decide +kernel) (by decide +kernel)
set_option maxRecDepth 20000 in
theorem gX4_level_X4_isChannel : GoodIn wsX4_level (va_wsS RX4 93 yX4_isChannel wsX4_isChannel) := goodIn_app (goodIn_of _ (by decide +kernel)) ggX4_level_X4_isChannel
set_option maxRecDepth 20000 in
theorem ggX4_level_X4_levelOf : GoodIn wsX4_level wsX4_levelOf := goodIn_r _ [15, 16, 17, 18, 19, 20, 21, 22, 23, 24, 25, 26, 27, 28, 29, 30, 31, 32, 33, 34, 35, 36, 37, 38, 39, 40, 41, 42, 43, 44, 45] (by decide +kernel) (by decide +kernel)
set_option maxRecDepth 20000 in
theorem gX4_level_X4_levelOf : GoodIn wsX4_level (wsV RX4 109 RX4 yX4_levelOf wsX4_levelOf) := goodIn_app (goodIn_of _ (by decide +kernel)) ggX4_level_X4_levelOf
theorem dX4_level_0 : decode cX4_level 0 = .ok (.aload_n 0, 1) := by decide +kernel
theorem dX4_level_1 : decode cX4_level 1 = .ok (.iload_n 1, 1) := by decide +kernel
theorem dX4_level_2 : decode cX4_level 2 = .ok (.invokestatic 99, 3) := by decide +kernel
theorem dX4_level_5 : decode cX4_level 5 = .ok (.ifCond .eq 14, 3) := by decide +kernel
theorem dX4_level_8 : decode cX4_level 8 = .ok (.iload_n 2, 1) := by decide +kernel
theorem dX4_level_9 : decode cX4_level 9 = .ok (.invokestatic 93, 3) := by decide +kernel
theorem dX4_level_12 : decode cX4_level 12 = .ok (.ifCond .eq 7, 3) := by decide +kernel
theorem dX4_level_15 : decode cX4_level 15 = .ok (.iconst 0, 1) := by decide +kernel
theorem dX4_level_16 : decode cX4_level 16 = .ok (.goto 4, 3) := by decide +kernel
theorem dX4_level_19 : decode cX4_level 19 = .ok (.iconst 1, 1) := by decide +kernel
theorem dX4_level_20 : decode cX4_level 20 = .ok (.putfield 64, 3) := by decide +kernel
theorem dX4_level_23 : decode cX4_level 23 = .ok (.aload_n 0, 1) := by decide +kernel
theorem dX4_level_24 : decode cX4_level 24 = .ok (.getfield 64, 3) := by decide +kernel
theorem dX4_level_27 : decode cX4_level 27 = .ok (.ifCond .ne 12, 3) := by decide +kernel
theorem dX4_level_30 : decode cX4_level 30 = .ok (.aload_n 0, 1) := by decide +kernel
theorem dX4_level_31 : decode cX4_level 31 = .ok (.iload_n 1, 1) := by decide +kernel
theorem dX4_level_32 : decode cX4_level 32 = .ok (.iload_n 2, 1) := by decide +kernel
theorem dX4_level_33 : decode cX4_level 33 = .ok (.invokevirtual 109, 3) := by decide +kernel
theorem dX4_level_36 : decode cX4_level 36 = .ok (.goto 4, 3) := by decide +kernel
theorem dX4_level_39 : decode cX4_level 39 = .ok (.iconst 0, 1) := by decide +kernel
theorem dX4_level_40 : decode cX4_level 40 = .ok (.ireturn, 1) := by decide +kernel
set_option maxRecDepth 20000 in
theorem ggX4_mergedOf_X4_levelOf : GoodIn wsX4_mergedOf wsX4_levelOf := goodIn_r _ [7, 8, 9, 10, 11, 12, 13, 14, 15, 16, 17, 18, 19, 20, 21, 22, 23, 24, 25, 26, 27, 28, 29, 30, 31, 32, 33, 34, 35, 36, 37] (by decide +kernel) (by decide +kernel)
set_option maxRecDepth 20000 in
theorem gX4_mergedOf_X4_levelOf : GoodIn wsX4_mergedOf (wsV RX4 109 RX4 yX4_levelOf wsX4_levelOf) := goodIn_app (goodIn_of _ (by decide +kernel)) ggX4_mergedOf_X4_levelOf
theorem dX4_mergedOf_0 : decode cX4_mergedOf 0 = .ok (.aload_n 0, 1) := by decide +kernel
theorem dX4_mergedOf_1 : decode cX4_mergedOf 1 = .ok (.iconst 0, 1) := by decide +kernel
theorem dX4_mergedOf_2 : decode cX4_mergedOf 2 = .ok (.iload_n 1, 1) := by decide +kernel
theorem dX4_mergedOf_3 : decode cX4_mergedOf 3 = .ok (.invokevirtual 109, 3) := by decide +kernel
theorem dX4_mergedOf_6 : decode cX4_mergedOf 6 = .ok (.istore_n 2, 1) := by decide +kernel
theorem dX4_mergedOf_7 : decode cX4_mergedOf 7 = .ok (.aload_n 0, 1) := by decide +kernel
theorem dX4_mergedOf_8 : decode cX4_mergedOf 8 = .ok (.iconst 1, 1) := by decide +kernel
theorem dX4_mergedOf_9 : decode cX4_mergedOf 9 = .ok (.iload_n 1, 1) := by decide +kernel
theorem dX4_mergedOf_10 : decode cX4_mergedOf 10 = .ok (.invokevirtual 109, 3) := by decide +kernel
theorem dX4_mergedOf_13 : decode cX4_mergedOf 13 = .ok (.istore_n 3, 1) := by decide +kernel
theorem dX4_mergedOf_14 : decode cX4_mergedOf 14 = .ok (.aload_n 0, 1) := by decide +kernel
theorem dX4_mergedOf_15 : decode cX4_mergedOf 15 = .ok (.getfield 19, 3) := by decide +kernel
theorem dX4_mergedOf_18 : decode cX4_mergedOf 18 = .ok (.iload_n 1, 1) := by decide +kernel
theorem dX4_mergedOf_19 : decode cX4_mergedOf 19 = .ok (.iaload, 1) := by decide +kernel
theorem dX4_mergedOf_20 : decode cX4_mergedOf 20 = .ok (.iconst 1, 1) := by decide +kernel
theorem dX4_mergedOf_21 : decode cX4_mergedOf 21 = .ok (.if_icmp .ne 18, 3) := by decide +kernel
theorem dX4_mergedOf_24 : decode cX4_mergedOf 24 = .ok (.aload_n 0, 1) := by decide +kernel
theorem dX4_mergedOf_25 : decode cX4_mergedOf 25 = .ok (.getfield 22, 3) := by decide +kernel
theorem dX4_mergedOf_28 : decode cX4_mergedOf 28 = .ok (.iload_n 1, 1) := by decide +kernel
theorem dX4_mergedOf_29 : decode cX4_mergedOf 29 = .ok (.iaload, 1) := by decide +kernel
theorem dX4_mergedOf_30 : decode cX4_mergedOf 30 = .ok (.ifCond .ne 7, 3) := by decide +kernel
theorem dX4_mergedOf_33 : decode cX4_mergedOf 33 = .ok (.iload_n 2, 1) := by decide +kernel
theorem dX4_mergedOf_34 : decode cX4_mergedOf 34 = .ok (.goto 4, 3) := by decide +kernel
theorem dX4_mergedOf_37 : decode cX4_mergedOf 37 = .ok (.iload_n 3, 1) := by decide +kernel
theorem dX4_mergedOf_38 : decode cX4_mergedOf 38 = .ok (.ireturn, 1) := by decide +kernel
theorem dX4_mergedOf_39 : decode cX4_mergedOf 39 = .ok (.iload_n 2, 1) := by decide +kernel
theorem dX4_mergedOf_40 : decode cX4_mergedOf 40 = .ok (.iload_n 3, 1) := by decide +kernel
theorem dX4_mergedOf_41 : decode cX4_mergedOf 41 = .ok (.if_icmp .le 7, 3) := by decide +kernel
theorem dX4_mergedOf_44 : decode cX4_mergedOf 44 = .ok (.iload_n 2, 1) := by decide +kernel
theorem dX4_mergedOf_45 : decode cX4_mergedOf 45 = .ok (.goto 4, 3) := by decide +kernel
theorem dX4_mergedOf_48 : decode cX4_mergedOf 48 = .ok (.iload_n 3, 1) := by decide +kernel
theorem dX4_mergedOf_49 : decode cX4_mergedOf 49 = .ok (.ireturn, 1) := by decide +kernel
set_option maxRecDepth 20000 in
theorem ggX4_merged_X4_isChannel : GoodIn wsX4_merged wsX4_isChannel := goodIn_r _ [5, 6, 7, 4, 8] (by decide +kernel) (by decide +kernel)
set_option maxRecDepth 20000 in
theorem gX4_merged_X4_isChannel : GoodIn wsX4_merged (va_wsS RX4 93 yX4_isChannel wsX4_isChannel) := goodIn_app (goodIn_of _ (by decide +kernel)) ggX4_merged_X4_isChannel
set_option maxRecDepth 20000 in
theorem ggX4_merged_X4_mergedOf : GoodIn wsX4_merged wsX4_mergedOf := goodIn_r _ [12, 13, 14, 15, 16, 17, 4, 18, 19, 20, 21, 22, 23, 24, 25, 26, 27, 28, 29, 30, 31, 32, 33, 34, 35, 36, 37, 38, 39, 40, 41, 42, 43, 44, 45, 46, 47, 48] (by decide +kernel) (by decide +kernel)
set_option maxRecDepth 20000 in
theorem gX4_merged_X4_mergedOf : GoodIn wsX4_merged (wsV RX4 120 RX4 yX4_mergedOf wsX4_mergedOf) := goodIn_app (goodIn_of _ (by decide +kernel)) ggX4_merged_X4_mergedOf
theorem dX4_merged_0 : decode cX4_merged 0 = .ok (.aload_n 0, 1) := by decide +kernel
theorem dX4_merged_1 : decode cX4_merged 1 = .ok (.iload_n 1, 1) := by decide +kernel
theorem dX4_merged_2 : decode cX4_merged 2 = .ok (.invokestatic 93, 3) := by decide +kernel
theorem dX4_merged_5 : decode cX4_merged 5 = .ok (.ifCond .eq 7, 3) := by decide +kernel
theorem dX4_merged_8 : decode cX4_merged 8 = .ok (.iconst 0, 1) := by decide +kernel
theorem dX4_merged_9 : decode cX4_merged 9 = .ok (.goto 4, 3) := by decide +kernel
theorem dX4_merged_12 : decode cX4_merged 12 = .ok (.iconst 1, 1) := by decide +kernel
theorem dX4_merged_13 : decode cX4_merged 13 = .ok (.putfield 64, 3) := by decide +kernel
theorem dX4_merged_16 : decode cX4_merged 16 = .ok (.aload_n 0, 1) := by decide +kernel
theorem dX4_merged_17 : decode cX4_merged 17 = .ok (.getfield 64, 3) := by decide +kernel
theorem dX4_merged_20 : decode cX4_merged 20 = .ok (.ifCond .ne 11, 3) := by decide +kernel
theorem dX4_merged_23 : decode cX4_merged 23 = .ok (.aload_n 0, 1) := by decide +kernel
theorem dX4_merged_24 : decode cX4_merged 24 = .ok (.iload_n 1, 1) := by decide +kernel
theorem dX4_merged_25 : decode cX4_merged 25 = .ok (.invokevirtual 120, 3) := by decide +kernel
theorem dX4_merged_28 : decode cX4_merged 28 = .ok (.goto 4, 3) := by decide +kernel
theorem dX4_merged_31 : decode cX4_merged 31 = .ok (.iconst 0, 1) := by decide +kernel
theorem dX4_merged_32 : decode cX4_merged 32 = .ok (.ireturn, 1) := by decide +kernel
theorem dX4_through_0 : decode cX4_through 0 = .ok (.iload_n 0, 1) := by decide +kernel
theorem dX4_through_1 : decode cX4_through 1 = .ok (.iload_n 2, 1) := by decide +kernel
theorem dX4_through_2 : decode cX4_through 2 = .ok (.imul, 1) := by decide +kernel
theorem dX4_through_3 : decode cX4_through 3 = .ok (.bipush 100, 2) := by decide +kernel
theorem dX4_through_5 : decode cX4_through 5 = .ok (.iconst 5, 1) := by decide +kernel
theorem dX4_through_6 : decode cX4_through 6 = .ok (.iload_n 1, 1) := by decide +kernel
theorem dX4_through_7 : decode cX4_through 7 = .ok (.imul, 1) := by decide +kernel
theorem dX4_through_8 : decode cX4_through 8 = .ok (.isub, 1) := by decide +kernel
theorem dX4_through_9 : decode cX4_through 9 = .ok (.imul, 1) := by decide +kernel
theorem dX4_through_10 : decode cX4_through 10 = .ok (.bipush 100, 2) := by decide +kernel
theorem dX4_through_12 : decode cX4_through 12 = .ok (.idiv, 1) := by decide +kernel
theorem dX4_through_13 : decode cX4_through 13 = .ok (.ireturn, 1) := by decide +kernel
set_option maxRecDepth 20000 in
theorem ggX4_lightOf_X4_through : GoodIn wsX4_lightOf wsX4_through := goodIn_r _ [8] (by decide +kernel) (by decide +kernel)
set_option maxRecDepth 20000 in
theorem gX4_lightOf_X4_through : GoodIn wsX4_lightOf (va_wsS RX4 123 yX4_through wsX4_through) := goodIn_app (goodIn_of _ (by decide +kernel)) ggX4_lightOf_X4_through
theorem dX4_lightOf_0 : decode cX4_lightOf 0 = .ok (.iconst 0, 1) := by decide +kernel
theorem dX4_lightOf_1 : decode cX4_lightOf 1 = .ok (.istore 4, 2) := by decide +kernel
theorem dX4_lightOf_3 : decode cX4_lightOf 3 = .ok (.iconst 0, 1) := by decide +kernel
theorem dX4_lightOf_4 : decode cX4_lightOf 4 = .ok (.istore 5, 2) := by decide +kernel
theorem dX4_lightOf_6 : decode cX4_lightOf 6 = .ok (.iload 5, 2) := by decide +kernel
theorem dX4_lightOf_8 : decode cX4_lightOf 8 = .ok (.aload_n 0, 1) := by decide +kernel
theorem dX4_lightOf_9 : decode cX4_lightOf 9 = .ok (.getfield 72, 3) := by decide +kernel
theorem dX4_lightOf_12 : decode cX4_lightOf 12 = .ok (.if_icmp .ge 54, 3) := by decide +kernel
theorem dX4_lightOf_15 : decode cX4_lightOf 15 = .ok (.iload 4, 2) := by decide +kernel
theorem dX4_lightOf_17 : decode cX4_lightOf 17 = .ok (.aload_n 0, 1) := by decide +kernel
theorem dX4_lightOf_18 : decode cX4_lightOf 18 = .ok (.getfield 16, 3) := by decide +kernel
theorem dX4_lightOf_21 : decode cX4_lightOf 21 = .ok (.bipush 20, 2) := by decide +kernel
theorem dX4_lightOf_23 : decode cX4_lightOf 23 = .ok (.iload_n 1, 1) := by decide +kernel
theorem dX4_lightOf_24 : decode cX4_lightOf 24 = .ok (.imul, 1) := by decide +kernel
theorem dX4_lightOf_25 : decode cX4_lightOf 25 = .ok (.iload 5, 2) := by decide +kernel
theorem dX4_lightOf_27 : decode cX4_lightOf 27 = .ok (.iadd, 1) := by decide +kernel
theorem dX4_lightOf_28 : decode cX4_lightOf 28 = .ok (.iaload, 1) := by decide +kernel
theorem dX4_lightOf_29 : decode cX4_lightOf 29 = .ok (.iload_n 2, 1) := by decide +kernel
theorem dX4_lightOf_30 : decode cX4_lightOf 30 = .ok (.iconst 1, 1) := by decide +kernel
theorem dX4_lightOf_31 : decode cX4_lightOf 31 = .ok (.iadd, 1) := by decide +kernel
theorem dX4_lightOf_32 : decode cX4_lightOf 32 = .ok (.if_icmp .ne 24, 3) := by decide +kernel
theorem dX4_lightOf_35 : decode cX4_lightOf 35 = .ok (.aload_n 0, 1) := by decide +kernel
theorem dX4_lightOf_36 : decode cX4_lightOf 36 = .ok (.getfield 7, 3) := by decide +kernel
theorem dX4_lightOf_39 : decode cX4_lightOf 39 = .ok (.iload 5, 2) := by decide +kernel
theorem dX4_lightOf_41 : decode cX4_lightOf 41 = .ok (.iaload, 1) := by decide +kernel
theorem dX4_lightOf_42 : decode cX4_lightOf 42 = .ok (.aload_n 0, 1) := by decide +kernel
theorem dX4_lightOf_43 : decode cX4_lightOf 43 = .ok (.getfield 13, 3) := by decide +kernel
theorem dX4_lightOf_46 : decode cX4_lightOf 46 = .ok (.iload 5, 2) := by decide +kernel
