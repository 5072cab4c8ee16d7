theorem dX1_lookAt_5 : decode cX1_lookAt 5 = .ok (.iaload, 1) := by decide +kernel
theorem dX1_lookAt_6 : decode cX1_lookAt 6 = .ok (.istore_n 2, 1) := by decide +kernel
theorem dX1_lookAt_7 : decode cX1_lookAt 7 = .ok (.aload_n 0, 1) := by decide +kernel
theorem dX1_lookAt_8 : decode cX1_lookAt 8 = .ok (.iload_n 2, 1) := by decide +kernel
theorem dX1_lookAt_9 : decode cX1_lookAt 9 = .ok (.invokevirtual 86, 3) := by decide +kernel
theorem dX1_lookAt_12 : decode cX1_lookAt 12 = .ok (.ifCond .eq 4, 3) := by decide +kernel
theorem dX1_lookAt_15 : decode cX1_lookAt 15 = .ok (.return_, 1) := by decide +kernel
theorem dX1_lookAt_16 : decode cX1_lookAt 16 = .ok (.aload_n 0, 1) := by decide +kernel
theorem dX1_lookAt_17 : decode cX1_lookAt 17 = .ok (.iload_n 1, 1) := by decide +kernel
theorem dX1_lookAt_18 : decode cX1_lookAt 18 = .ok (.invokevirtual 118, 3) := by decide +kernel
theorem dX1_lookAt_21 : decode cX1_lookAt 21 = .ok (.istore_n 3, 1) := by decide +kernel
theorem dX1_lookAt_22 : decode cX1_lookAt 22 = .ok (.iload_n 3, 1) := by decide +kernel
theorem dX1_lookAt_23 : decode cX1_lookAt 23 = .ok (.bipush (-5), 2) := by decide +kernel
theorem dX1_lookAt_25 : decode cX1_lookAt 25 = .ok (.if_icmp .eq 42, 3) := by decide +kernel
theorem dX1_lookAt_28 : decode cX1_lookAt 28 = .ok (.aload_n 0, 1) := by decide +kernel
theorem dX1_lookAt_29 : decode cX1_lookAt 29 = .ok (.iload_n 1, 1) := by decide +kernel
theorem dX1_lookAt_30 : decode cX1_lookAt 30 = .ok (.iload_n 3, 1) := by decide +kernel
theorem dX1_lookAt_31 : decode cX1_lookAt 31 = .ok (.invokevirtual 121, 3) := by decide +kernel
theorem dX1_lookAt_34 : decode cX1_lookAt 34 = .ok (.aload_n 0, 1) := by decide +kernel
theorem dX1_lookAt_35 : decode cX1_lookAt 35 = .ok (.iload_n 3, 1) := by decide +kernel
theorem dX1_lookAt_36 : decode cX1_lookAt 36 = .ok (.invokevirtual 136, 3) := by decide +kernel
theorem dX1_lookAt_39 : decode cX1_lookAt 39 = .ok (.aload_n 0, 1) := by decide +kernel
theorem dX1_lookAt_40 : decode cX1_lookAt 40 = .ok (.iload_n 3, 1) := by decide +kernel
theorem dX1_lookAt_41 : decode cX1_lookAt 41 = .ok (.invokevirtual 124, 3) := by decide +kernel
theorem dX1_lookAt_44 : decode cX1_lookAt 44 = .ok (.aload_n 0, 1) := by decide +kernel
theorem dX1_lookAt_45 : decode cX1_lookAt 45 = .ok (.dup, 1) := by decide +kernel
theorem dX1_lookAt_46 : decode cX1_lookAt 46 = .ok (.getfield 47, 3) := by decide +kernel
theorem dX1_lookAt_49 : decode cX1_lookAt 49 = .ok (.iconst 1, 1) := by decide +kernel
theorem dX1_lookAt_50 : decode cX1_lookAt 50 = .ok (.iadd, 1) := by decide +kernel
theorem dX1_lookAt_51 : decode cX1_lookAt 51 = .ok (.putfield 47, 3) := by decide +kernel
theorem dX1_lookAt_54 : decode cX1_lookAt 54 = .ok (.aload_n 0, 1) := by decide +kernel
theorem dX1_lookAt_55 : decode cX1_lookAt 55 = .ok (.getfield 32, 3) := by decide +kernel
theorem dX1_lookAt_58 : decode cX1_lookAt 58 = .ok (.iload_n 1, 1) := by decide +kernel
theorem dX1_lookAt_59 : decode cX1_lookAt 59 = .ok (.dup2, 1) := by decide +kernel
theorem dX1_lookAt_60 : decode cX1_lookAt 60 = .ok (.iaload, 1) := by decide +kernel
theorem dX1_lookAt_61 : decode cX1_lookAt 61 = .ok (.iconst 1, 1) := by decide +kernel
theorem dX1_lookAt_62 : decode cX1_lookAt 62 = .ok (.iadd, 1) := by decide +kernel
theorem dX1_lookAt_63 : decode cX1_lookAt 63 = .ok (.iastore, 1) := by decide +kernel
theorem dX1_lookAt_64 : decode cX1_lookAt 64 = .ok (.goto 16, 3) := by decide +kernel
theorem dX1_lookAt_67 : decode cX1_lookAt 67 = .ok (.aload_n 0, 1) := by decide +kernel
theorem dX1_lookAt_68 : decode cX1_lookAt 68 = .ok (.iload_n 2, 1) := by decide +kernel
theorem dX1_lookAt_69 : decode cX1_lookAt 69 = .ok (.invokevirtual 89, 3) := by decide +kernel
theorem dX1_lookAt_72 : decode cX1_lookAt 72 = .ok (.ifCond .eq 8, 3) := by decide +kernel
theorem dX1_lookAt_75 : decode cX1_lookAt 75 = .ok (.aload_n 0, 1) := by decide +kernel
theorem dX1_lookAt_76 : decode cX1_lookAt 76 = .ok (.iload_n 1, 1) := by decide +kernel
theorem dX1_lookAt_77 : decode cX1_lookAt 77 = .ok (.invokevirtual 139, 3) := by decide +kernel
theorem dX1_lookAt_80 : decode cX1_lookAt 80 = .ok (.return_, 1) := by decide +kernel
set_option maxRecDepth 20000 in
theorem ggX1_lend_X1_release : GoodIn wsX1_lend wsX1_release := goodIn_r _ [7, 2, 1, 8, 9, 10, 6, 11, 12, 13, 14, 15, 16, 17, 18, 19, 20, 21, 22, 23, 24, 25, 26] (by decide +kernel) (by decide +kernel)
set_option maxRecDepth 20000 in
theorem gX1_lend_X1_release : GoodIn wsX1_lend (wsV RX1 142 RX1 yX1_release wsX1_release) := goodIn_app (goodIn_of _ (by decide +kernel)) ggX1_lend_X1_release
theorem dX1_lend_0 : decode cX1_lend 0 = .ok (.aload_n 0, 1) := by decide +kernel
theorem dX1_lend_1 : decode cX1_lend 1 = .ok (.iload_n 1, 1) := by decide +kernel
theorem dX1_lend_2 : decode cX1_lend 2 = .ok (.invokevirtual 142, 3) := by decide +kernel
theorem dX1_lend_5 : decode cX1_lend 5 = .ok (.aload_n 0, 1) := by decide +kernel
theorem dX1_lend_6 : decode cX1_lend 6 = .ok (.getfield 35, 3) := by decide +kernel
theorem dX1_lend_9 : decode cX1_lend 9 = .ok (.iload_n 1, 1) := by decide +kernel
theorem dX1_lend_10 : decode cX1_lend 10 = .ok (.iload_n 2, 1) := by decide +kernel
theorem dX1_lend_11 : decode cX1_lend 11 = .ok (.iastore, 1) := by decide +kernel
theorem dX1_lend_12 : decode cX1_lend 12 = .ok (.aload_n 0, 1) := by decide +kernel
theorem dX1_lend_13 : decode cX1_lend 13 = .ok (.getfield 38, 3) := by decide +kernel
theorem dX1_lend_16 : decode cX1_lend 16 = .ok (.iload_n 2, 1) := by decide +kernel
theorem dX1_lend_17 : decode cX1_lend 17 = .ok (.iload_n 1, 1) := by decide +kernel
theorem dX1_lend_18 : decode cX1_lend 18 = .ok (.iastore, 1) := by decide +kernel
theorem dX1_lend_19 : decode cX1_lend 19 = .ok (.return_, 1) := by decide +kernel
set_option maxRecDepth 20000 in
theorem ggX1_lose_X1_release : GoodIn wsX1_lose wsX1_release := goodIn_r _ [6, 7, 8, 9, 10, 11, 5, 12, 13, 14, 15, 16, 17, 18, 19, 20, 21, 22, 23, 24, 25, 26, 27] (by decide +kernel) (by decide +kernel)
set_option maxRecDepth 20000 in
theorem gX1_lose_X1_release : GoodIn wsX1_lose (wsV RX1 142 RX1 yX1_release wsX1_release) := goodIn_app (goodIn_of _ (by decide +kernel)) ggX1_lose_X1_release
theorem dX1_lose_0 : decode cX1_lose 0 = .ok (.aload_n 0, 1) := by decide +kernel
theorem dX1_lose_1 : decode cX1_lose 1 = .ok (.iload_n 1, 1) := by decide +kernel
theorem dX1_lose_2 : decode cX1_lose 2 = .ok (.invokevirtual 142, 3) := by decide +kernel
theorem dX1_lose_5 : decode cX1_lose 5 = .ok (.aload_n 0, 1) := by decide +kernel
theorem dX1_lose_6 : decode cX1_lose 6 = .ok (.dup, 1) := by decide +kernel
theorem dX1_lose_7 : decode cX1_lose 7 = .ok (.getfield 50, 3) := by decide +kernel
theorem dX1_lose_10 : decode cX1_lose 10 = .ok (.iconst 1, 1) := by decide +kernel
theorem dX1_lose_11 : decode cX1_lose 11 = .ok (.iadd, 1) := by decide +kernel
theorem dX1_lose_12 : decode cX1_lose 12 = .ok (.putfield 50, 3) := by decide +kernel
theorem dX1_lose_15 : decode cX1_lose 15 = .ok (.return_, 1) := by decide +kernel
set_option maxRecDepth 20000 in
theorem ggX1_release_X1_isLost : GoodIn wsX1_release wsX1_isLost := goodIn_r _ [7, 2, 8, 9, 10, 11, 12, 13, 14, 15, 16, 17, 18, 19, 20, 21, 22] (by decide +kernel) (by decide +kernel)
set_option maxRecDepth 20000 in
theorem gX1_release_X1_isLost : GoodIn wsX1_release (wsV RX1 83 RX1 yX1_isLost wsX1_isLost) := goodIn_app (goodIn_of _ (by decide +kernel)) ggX1_release_X1_isLost
theorem dX1_release_0 : decode cX1_release 0 = .ok (.aload_n 0, 1) := by decide +kernel
theorem dX1_release_1 : decode cX1_release 1 = .ok (.iload_n 1, 1) := by decide +kernel
theorem dX1_release_2 : decode cX1_release 2 = .ok (.invokevirtual 83, 3) := by decide +kernel
theorem dX1_release_5 : decode cX1_release 5 = .ok (.ifCond .ne 16, 3) := by decide +kernel
theorem dX1_release_8 : decode cX1_release 8 = .ok (.aload_n 0, 1) := by decide +kernel
theorem dX1_release_9 : decode cX1_release 9 = .ok (.getfield 38, 3) := by decide +kernel
theorem dX1_release_12 : decode cX1_release 12 = .ok (.aload_n 0, 1) := by decide +kernel
theorem dX1_release_13 : decode cX1_release 13 = .ok (.getfield 35, 3) := by decide +kernel
theorem dX1_release_16 : decode cX1_release 16 = .ok (.iload_n 1, 1) := by decide +kernel
theorem dX1_release_17 : decode cX1_release 17 = .ok (.iaload, 1) := by decide +kernel
theorem dX1_release_18 : decode cX1_release 18 = .ok (.bipush (-5), 2) := by decide +kernel
theorem dX1_release_20 : decode cX1_release 20 = .ok (.iastore, 1) := by decide +kernel
theorem dX1_release_21 : decode cX1_release 21 = .ok (.aload_n 0, 1) := by decide +kernel
theorem dX1_release_22 : decode cX1_release 22 = .ok (.getfield 35, 3) := by decide +kernel
theorem dX1_release_25 : decode cX1_release 25 = .ok (.iload_n 1, 1) := by decide +kernel
theorem dX1_release_26 : decode cX1_release 26 = .ok (.bipush (-5), 2) := by decide +kernel
theorem dX1_release_28 : decode cX1_release 28 = .ok (.iastore, 1) := by decide +kernel
theorem dX1_release_29 : decode cX1_release 29 = .ok (.return_, 1) := by decide +kernel
set_option maxRecDepth 20000 in
theorem ggX1_wearByReading_X3_headOf : GoodIn wsX1_wearByReading wsX3_headOf := goodIn_r _ [5] (by decide +kernel) (by decide +kernel)
set_option maxRecDepth 20000 in
theorem gX1_wearByReading_X3_headOf_n80 : GoodIn wsX1_wearByReading (wsX3_headOf) := ggX1_wearByReading_X3_headOf
theorem dX1_wearByReading_0 : decode cX1_wearByReading 0 = .ok (.aload_n 0, 1) := by decide +kernel
theorem dX1_wearByReading_1 : decode cX1_wearByReading 1 = .ok (.getfield 26, 3) := by decide +kernel
theorem dX1_wearByReading_4 : decode cX1_wearByReading 4 = .ok (.iload_n 1, 1) := by decide +kernel
theorem dX1_wearByReading_5 : decode cX1_wearByReading 5 = .ok (.dup2, 1) := by decide +kernel
theorem dX1_wearByReading_6 : decode cX1_wearByReading 6 = .ok (.iaload, 1) := by decide +kernel
theorem dX1_wearByReading_7 : decode cX1_wearByReading 7 = .ok (.aload_n 0, 1) := by decide +kernel
theorem dX1_wearByReading_8 : decode cX1_wearByReading 8 = .ok (.getfield 15, 3) := by decide +kernel
theorem dX1_wearByReading_11 : decode cX1_wearByReading 11 = .ok (.iload_n 1, 1) := by decide +kernel
theorem dX1_wearByReading_12 : decode cX1_wearByReading 12 = .ok (.invokestatic 80, 3) := by decide +kernel
theorem dX1_wearByReading_15 : decode cX1_wearByReading 15 = .ok (.iaload, 1) := by decide +kernel
theorem dX1_wearByReading_16 : decode cX1_wearByReading 16 = .ok (.iadd, 1) := by decide +kernel
theorem dX1_wearByReading_17 : decode cX1_wearByReading 17 = .ok (.iastore, 1) := by decide +kernel
theorem dX1_wearByReading_18 : decode cX1_wearByReading 18 = .ok (.return_, 1) := by decide +kernel
set_option maxRecDepth 20000 in
theorem ggX1_wearByWriting_X3_headOf : GoodIn wsX1_wearByWriting wsX3_headOf := goodIn_r _ [5] (by decide +kernel) (by decide +kernel)
set_option maxRecDepth 20000 in
theorem gX1_wearByWriting_X3_headOf_n80 : GoodIn wsX1_wearByWriting (wsX3_headOf) := ggX1_wearByWriting_X3_headOf
theorem dX1_wearByWriting_0 : decode cX1_wearByWriting 0 = .ok (.aload_n 0, 1) := by decide +kernel
theorem dX1_wearByWriting_1 : decode cX1_wearByWriting 1 = .ok (.getfield 26, 3) := by decide +kernel
theorem dX1_wearByWriting_4 : decode cX1_wearByWriting 4 = .ok (.iload_n 1, 1) := by decide +kernel
theorem dX1_wearByWriting_5 : decode cX1_wearByWriting 5 = .ok (.dup2, 1) := by decide +kernel
theorem dX1_wearByWriting_6 : decode cX1_wearByWriting 6 = .ok (.iaload, 1) := by decide +kernel
theorem dX1_wearByWriting_7 : decode cX1_wearByWriting 7 = .ok (.iconst 2, 1) := by decide +kernel
theorem dX1_wearByWriting_8 : decode cX1_wearByWriting 8 = .ok (.aload_n 0, 1) := by decide +kernel
theorem dX1_wearByWriting_9 : decode cX1_wearByWriting 9 = .ok (.getfield 15, 3) := by decide +kernel
theorem dX1_wearByWriting_12 : decode cX1_wearByWriting 12 = .ok (.iload_n 1, 1) := by decide +kernel
theorem dX1_wearByWriting_13 : decode cX1_wearByWriting 13 = .ok (.invokestatic 80, 3) := by decide +kernel
theorem dX1_wearByWriting_16 : decode cX1_wearByWriting 16 = .ok (.iaload, 1) := by decide +kernel
theorem dX1_wearByWriting_17 : decode cX1_wearByWriting 17 = .ok (.imul, 1) := by decide +kernel
theorem dX1_wearByWriting_18 : decode cX1_wearByWriting 18 = .ok (.iadd, 1) := by decide +kernel
theorem dX1_wearByWriting_19 : decode cX1_wearByWriting 19 = .ok (.iastore, 1) := by decide +kernel
theorem dX1_wearByWriting_20 : decode cX1_wearByWriting 20 = .ok (.return_, 1) := by decide +kernel
set_option maxRecDepth 20000 in
theorem ggX1_goTo_X1_stepsTo : GoodIn wsX1_goTo wsX1_stepsTo := goodIn_r _ [8, 2, 9, 3, 10, 11, 12, 13, 14, 15, 16, 17, 18, 19, 20, 21, 22, 23, 24, 25, 26, 27, 28, 29, 30, 31, 32, 33, 34, 35, 36, 37] (by decide +kernel) (by decide +kernel)
set_option maxRecDepth 20000 in
theorem gX1_goTo_X1_stepsTo : GoodIn wsX1_goTo (wsV RX1 145 RX1 yX1_stepsTo wsX1_stepsTo) := goodIn_app (goodIn_of _ (by decide +kernel)) ggX1_goTo_X1_stepsTo
theorem dX1_goTo_0 : decode cX1_goTo 0 = .ok (.aload_n 0, 1) := by decide +kernel
theorem dX1_goTo_1 : decode cX1_goTo 1 = .ok (.dup, 1) := by decide +kernel
theorem dX1_goTo_2 : decode cX1_goTo 2 = .ok (.getfield 44, 3) := by decide +kernel
theorem dX1_goTo_5 : decode cX1_goTo 5 = .ok (.aload_n 0, 1) := by decide +kernel
theorem dX1_goTo_6 : decode cX1_goTo 6 = .ok (.iload_n 1, 1) := by decide +kernel
theorem dX1_goTo_7 : decode cX1_goTo 7 = .ok (.invokevirtual 145, 3) := by decide +kernel
theorem dX1_goTo_10 : decode cX1_goTo 10 = .ok (.iadd, 1) := by decide +kernel
theorem dX1_goTo_11 : decode cX1_goTo 11 = .ok (.putfield 44, 3) := by decide +kernel
theorem dX1_goTo_14 : decode cX1_goTo 14 = .ok (.aload_n 0, 1) := by decide +kernel
theorem dX1_goTo_15 : decode cX1_goTo 15 = .ok (.aload_n 0, 1) := by decide +kernel
theorem dX1_goTo_16 : decode cX1_goTo 16 = .ok (.getfield 35, 3) := by decide +kernel
theorem dX1_goTo_19 : decode cX1_goTo 19 = .ok (.iload_n 1, 1) := by decide +kernel
theorem dX1_goTo_20 : decode cX1_goTo 20 = .ok (.iaload, 1) := by decide +kernel
theorem dX1_goTo_21 : decode cX1_goTo 21 = .ok (.putfield 41, 3) := by decide +kernel
theorem dX1_goTo_24 : decode cX1_goTo 24 = .ok (.return_, 1) := by decide +kernel
set_option maxRecDepth 20000 in
theorem ggX1_moveTo_X3_stepsBetween : GoodIn wsX1_moveTo wsX3_stepsBetween := goodIn_r _ [5, 6, 7, 8, 9, 10, 11, 4, 12, 13, 14, 15] (by decide +kernel) (by decide +kernel)
set_option maxRecDepth 20000 in
theorem gX1_moveTo_X3_stepsBetween_n101 : GoodIn wsX1_moveTo (wsX3_stepsBetween) := ggX1_moveTo_X3_stepsBetween
theorem dX1_moveTo_0 : decode cX1_moveTo 0 = .ok (.aload_n 0, 1) := by decide +kernel
theorem dX1_moveTo_1 : decode cX1_moveTo 1 = .ok (.dup, 1) := by decide +kernel
theorem dX1_moveTo_2 : decode cX1_moveTo 2 = .ok (.getfield 44, 3) := by decide +kernel
theorem dX1_moveTo_5 : decode cX1_moveTo 5 = .ok (.aload_n 0, 1) := by decide +kernel
theorem dX1_moveTo_6 : decode cX1_moveTo 6 = .ok (.getfield 41, 3) := by decide +kernel
theorem dX1_moveTo_9 : decode cX1_moveTo 9 = .ok (.iload_n 1, 1) := by decide +kernel
theorem dX1_moveTo_10 : decode cX1_moveTo 10 = .ok (.invokestatic 101, 3) := by decide +kernel
theorem dX1_moveTo_13 : decode cX1_moveTo 13 = .ok (.iadd, 1) := by decide +kernel
theorem dX1_moveTo_14 : decode cX1_moveTo 14 = .ok (.putfield 44, 3) := by decide +kernel
theorem dX1_moveTo_17 : decode cX1_moveTo 17 = .ok (.aload_n 0, 1) := by decide +kernel
theorem dX1_moveTo_18 : decode cX1_moveTo 18 = .ok (.iload_n 1, 1) := by decide +kernel
theorem dX1_moveTo_19 : decode cX1_moveTo 19 = .ok (.putfield 41, 3) := by decide +kernel
theorem dX1_moveTo_22 : decode cX1_moveTo 22 = .ok (.return_, 1) := by decide +kernel
set_option maxRecDepth 20000 in
theorem ggX1_giveBackAt_X1_isAddress : GoodIn wsX1_giveBackAt wsX1_isAddress := goodIn_r _ [7, 8, 9, 10, 11, 12, 13, 14, 15, 66, 67, 68, 69, 70, 71, 72, 73, 74, 75, 76, 77, 78, 79, 80] (by decide +kernel) (by decide +kernel)
set_option maxRecDepth 20000 in
theorem gX1_giveBackAt_X1_isAddress : GoodIn wsX1_giveBackAt (wsV RX1 69 RX1 yX1_isAddress wsX1_isAddress) := goodIn_app (goodIn_of _ (by decide +kernel)) ggX1_giveBackAt_X1_isAddress
set_option maxRecDepth 20000 in
theorem ggX1_giveBackAt_X1_isLongWay : GoodIn wsX1_giveBackAt wsX1_isLongWay := goodIn_r _ [19, 2, 20, 21, 22, 6, 23, 66, 67, 68, 69, 70, 71, 72, 73, 74, 75, 76, 77, 78, 79, 80] (by decide +kernel) (by decide +kernel)
set_option maxRecDepth 20000 in
theorem gX1_giveBackAt_X1_isLongWay : GoodIn wsX1_giveBackAt (wsV RX1 148 RX1 yX1_isLongWay wsX1_isLongWay) := goodIn_app (goodIn_of _ (by decide +kernel)) ggX1_giveBackAt_X1_isLongWay
set_option maxRecDepth 20000 in
theorem ggX1_giveBackAt_X1_isGood : GoodIn wsX1_giveBackAt wsX1_isGood := goodIn_r _ [27, 28, 29, 66, 67, 68, 69, 70, 71, 72, 73, 74, 75, 76, 77, 78, 79, 80] (by decide +kernel) (by decide +kernel)
set_option maxRecDepth 20000 in
theorem gX1_giveBackAt_X1_isGood : GoodIn wsX1_giveBackAt (wsV RX1 86 RX1 yX1_isGood wsX1_isGood) := goodIn_app (goodIn_of _ (by decide +kernel)) ggX1_giveBackAt_X1_isGood
set_option maxRecDepth 20000 in
theorem ggX1_giveBackAt_X3_headOf : GoodIn wsX1_giveBackAt wsX3_headOf := goodIn_r _ [15] (by decide +kernel) (by decide +kernel)
set_option maxRecDepth 20000 in
theorem gX1_giveBackAt_X3_headOf_n80 : GoodIn wsX1_giveBackAt (wsX3_headOf) := ggX1_giveBackAt_X3_headOf
set_option maxRecDepth 20000 in
theorem ggX1_giveBackAt_X1_goTo : GoodIn wsX1_giveBackAt wsX1_goTo := goodIn_r _ [33, 34, 2, 35, 36, 37, 38, 6, 39, 1, 14, 10, 15, 40, 41, 42, 43, 44, 45, 46, 12, 13, 47, 66, 67, 68, 69, 70, 71, 72, 73, 74, 75, 76, 77, 78, 79, 80] (by decide +kernel) (by decide +kernel)
set_option maxRecDepth 20000 in
theorem gX1_giveBackAt_X1_goTo : GoodIn wsX1_giveBackAt (wsV RX1 108 RX1 yX1_goTo wsX1_goTo) := goodIn_app (goodIn_of _ (by decide +kernel)) ggX1_giveBackAt_X1_goTo
set_option maxRecDepth 20000 in
theorem ggX1_giveBackAt_X1_moveTo : GoodIn wsX1_giveBackAt wsX1_moveTo := goodIn_r _ [51, 34, 35, 40, 10, 41, 42, 43, 44, 45, 46, 12, 13, 47, 14, 15, 66, 67, 68, 69, 70, 71, 72, 73, 74, 75, 76, 77, 78, 79, 80] (by decide +kernel) (by decide +kernel)
set_option maxRecDepth 20000 in
theorem gX1_giveBackAt_X1_moveTo : GoodIn wsX1_giveBackAt (wsV RX1 136 RX1 yX1_moveTo wsX1_moveTo) := goodIn_app (goodIn_of _ (by decide +kernel)) ggX1_giveBackAt_X1_moveTo
set_option maxRecDepth 20000 in
theorem ggX1_giveBackAt_X1_wearByWriting : GoodIn wsX1_giveBackAt wsX1_wearByWriting := goodIn_r _ [55, 28, 56, 14, 10, 15, 66, 67, 68, 69, 70, 71, 72, 73, 74, 75, 76, 77, 78, 79, 80] (by decide +kernel) (by decide +kernel)
set_option maxRecDepth 20000 in
theorem gX1_giveBackAt_X1_wearByWriting : GoodIn wsX1_giveBackAt (wsV RX1 124 RX1 yX1_wearByWriting wsX1_wearByWriting) := goodIn_app (goodIn_of _ (by decide +kernel)) ggX1_giveBackAt_X1_wearByWriting
set_option maxRecDepth 20000 in
theorem ggX1_giveBackAt_X1_lend : GoodIn wsX1_giveBackAt wsX1_lend := goodIn_r _ [60, 2, 61, 62, 63, 64, 6, 65, 20, 21, 22, 23, 66, 67, 68, 69, 70, 71, 72, 73, 74, 75, 76, 77, 78, 79, 80] (by decide +kernel) (by decide +kernel)
set_option maxRecDepth 20000 in
theorem gX1_giveBackAt_X1_lend : GoodIn wsX1_giveBackAt (wsV RX1 121 RX1 yX1_lend wsX1_lend) := goodIn_app (goodIn_of _ (by decide +kernel)) ggX1_giveBackAt_X1_lend
theorem dX1_giveBackAt_0 : decode cX1_giveBackAt 0 = .ok (.aload_n 0, 1) := by decide +kernel
theorem dX1_giveBackAt_1 : decode cX1_giveBackAt 1 = .ok (.iload_n 1, 1) := by decide +kernel
theorem dX1_giveBackAt_2 : decode cX1_giveBackAt 2 = .ok (.invokevirtual 69, 3) := by decide +kernel
theorem dX1_giveBackAt_5 : decode cX1_giveBackAt 5 = .ok (.ifCond .ne 5, 3) := by decide +kernel
theorem dX1_giveBackAt_8 : decode cX1_giveBackAt 8 = .ok (.iconst (-1), 1) := by decide +kernel
theorem dX1_giveBackAt_9 : decode cX1_giveBackAt 9 = .ok (.ireturn, 1) := by decide +kernel
theorem dX1_giveBackAt_10 : decode cX1_giveBackAt 10 = .ok (.aload_n 0, 1) := by decide +kernel
theorem dX1_giveBackAt_11 : decode cX1_giveBackAt 11 = .ok (.iload_n 1, 1) := by decide +kernel
theorem dX1_giveBackAt_12 : decode cX1_giveBackAt 12 = .ok (.invokevirtual 148, 3) := by decide +kernel
theorem dX1_giveBackAt_15 : decode cX1_giveBackAt 15 = .ok (.ifCond .ne 6, 3) := by decide +kernel
theorem dX1_giveBackAt_18 : decode cX1_giveBackAt 18 = .ok (.bipush (-5), 2) := by decide +kernel
theorem dX1_giveBackAt_20 : decode cX1_giveBackAt 20 = .ok (.ireturn, 1) := by decide +kernel
theorem dX1_giveBackAt_21 : decode cX1_giveBackAt 21 = .ok (.aload_n 0, 1) := by decide +kernel
theorem dX1_giveBackAt_22 : decode cX1_giveBackAt 22 = .ok (.iload_n 1, 1) := by decide +kernel
theorem dX1_giveBackAt_23 : decode cX1_giveBackAt 23 = .ok (.invokevirtual 86, 3) := by decide +kernel
theorem dX1_giveBackAt_26 : decode cX1_giveBackAt 26 = .ok (.ifCond .eq 15, 3) := by decide +kernel
theorem dX1_giveBackAt_29 : decode cX1_giveBackAt 29 = .ok (.aload_n 0, 1) := by decide +kernel
theorem dX1_giveBackAt_30 : decode cX1_giveBackAt 30 = .ok (.getfield 22, 3) := by decide +kernel
theorem dX1_giveBackAt_33 : decode cX1_giveBackAt 33 = .ok (.iload_n 1, 1) := by decide +kernel
theorem dX1_giveBackAt_34 : decode cX1_giveBackAt 34 = .ok (.invokestatic 80, 3) := by decide +kernel
theorem dX1_giveBackAt_37 : decode cX1_giveBackAt 37 = .ok (.baload, 1) := by decide +kernel
theorem dX1_giveBackAt_38 : decode cX1_giveBackAt 38 = .ok (.ifCond .eq 6, 3) := by decide +kernel
theorem dX1_giveBackAt_41 : decode cX1_giveBackAt 41 = .ok (.bipush (-4), 2) := by decide +kernel
theorem dX1_giveBackAt_43 : decode cX1_giveBackAt 43 = .ok (.ireturn, 1) := by decide +kernel
theorem dX1_giveBackAt_44 : decode cX1_giveBackAt 44 = .ok (.aload_n 0, 1) := by decide +kernel
theorem dX1_giveBackAt_45 : decode cX1_giveBackAt 45 = .ok (.getfield 35, 3) := by decide +kernel
theorem dX1_giveBackAt_48 : decode cX1_giveBackAt 48 = .ok (.iload_n 1, 1) := by decide +kernel
theorem dX1_giveBackAt_49 : decode cX1_giveBackAt 49 = .ok (.iaload, 1) := by decide +kernel
theorem dX1_giveBackAt_50 : decode cX1_giveBackAt 50 = .ok (.istore_n 2, 1) := by decide +kernel
theorem dX1_giveBackAt_51 : decode cX1_giveBackAt 51 = .ok (.aload_n 0, 1) := by decide +kernel
theorem dX1_giveBackAt_52 : decode cX1_giveBackAt 52 = .ok (.iload_n 1, 1) := by decide +kernel
theorem dX1_giveBackAt_53 : decode cX1_giveBackAt 53 = .ok (.invokevirtual 108, 3) := by decide +kernel
theorem dX1_giveBackAt_56 : decode cX1_giveBackAt 56 = .ok (.aload_n 0, 1) := by decide +kernel
theorem dX1_giveBackAt_57 : decode cX1_giveBackAt 57 = .ok (.iload_n 1, 1) := by decide +kernel
theorem dX1_giveBackAt_58 : decode cX1_giveBackAt 58 = .ok (.invokevirtual 136, 3) := by decide +kernel
theorem dX1_giveBackAt_61 : decode cX1_giveBackAt 61 = .ok (.aload_n 0, 1) := by decide +kernel
theorem dX1_giveBackAt_62 : decode cX1_giveBackAt 62 = .ok (.iload_n 1, 1) := by decide +kernel
theorem dX1_giveBackAt_63 : decode cX1_giveBackAt 63 = .ok (.invokevirtual 124, 3) := by decide +kernel
theorem dX1_giveBackAt_66 : decode cX1_giveBackAt 66 = .ok (.aload_n 0, 1) := by decide +kernel
theorem dX1_giveBackAt_67 : decode cX1_giveBackAt 67 = .ok (.iload_n 1, 1) := by decide +kernel
theorem dX1_giveBackAt_68 : decode cX1_giveBackAt 68 = .ok (.iload_n 1, 1) := by decide +kernel
theorem dX1_giveBackAt_69 : decode cX1_giveBackAt 69 = .ok (.invokevirtual 121, 3) := by decide +kernel
theorem dX1_giveBackAt_72 : decode cX1_giveBackAt 72 = .ok (.iload_n 2, 1) := by decide +kernel
theorem dX1_giveBackAt_73 : decode cX1_giveBackAt 73 = .ok (.ireturn, 1) := by decide +kernel
set_option maxRecDepth 20000 in
theorem ggX1_vacate_X1_isAddress : GoodIn wsX1_vacate wsX1_isAddress := goodIn_r _ [8, 9, 10, 11, 12, 13, 14, 15, 16, 65, 66, 67, 68, 69, 70, 71, 72, 73, 74, 75, 76, 77, 78, 79] (by decide +kernel) (by decide +kernel)
set_option maxRecDepth 20000 in
theorem gX1_vacate_X1_isAddress : GoodIn wsX1_vacate (wsV RX1 69 RX1 yX1_isAddress wsX1_isAddress) := goodIn_app (goodIn_of _ (by decide +kernel)) ggX1_vacate_X1_isAddress
set_option maxRecDepth 20000 in
theorem ggX1_vacate_X1_isLost : GoodIn wsX1_vacate wsX1_isLost := goodIn_r _ [20, 3, 65, 66, 67, 68, 69, 70, 71, 72, 73, 74, 75, 76, 77, 78, 79] (by decide +kernel) (by decide +kernel)
set_option maxRecDepth 20000 in
theorem gX1_vacate_X1_isLost : GoodIn wsX1_vacate (wsV RX1 83 RX1 yX1_isLost wsX1_isLost) := goodIn_app (goodIn_of _ (by decide +kernel)) ggX1_vacate_X1_isLost
set_option maxRecDepth 20000 in
theorem ggX1_vacate_X3_headOf : GoodIn wsX1_vacate wsX3_headOf := goodIn_r _ [16] (by decide +kernel) (by decide +kernel)
set_option maxRecDepth 20000 in
theorem gX1_vacate_X3_headOf_n80 : GoodIn wsX1_vacate (wsX3_headOf) := ggX1_vacate_X3_headOf
set_option maxRecDepth 20000 in
theorem ggX1_vacate_X1_moveAway : GoodIn wsX1_vacate wsX1_moveAway := goodIn_r _ [24, 25, 26, 27, 7, 28, 15, 11, 16, 29, 30, 31, 32, 33, 34, 35, 36, 9, 37, 2, 13, 14, 38, 39, 40, 41, 42, 43, 44, 45, 46, 47, 48, 49, 50, 51, 1, 52, 53, 54, 55, 3, 17, 18, 19, 20, 56, 57, 58, 59, 60, 61, 62, 63, 64, 65, 66, 67, 68, 69, 70, 71, 72, 73, 74, 75, 76, 77, 78, 79] (by decide +kernel) (by decide +kernel)
set_option maxRecDepth 20000 in
theorem gX1_vacate_X1_moveAway : GoodIn wsX1_vacate (wsV RX1 151 RX1 yX1_moveAway wsX1_moveAway) := goodIn_app (goodIn_of _ (by decide +kernel)) ggX1_vacate_X1_moveAway
theorem dX1_vacate_0 : decode cX1_vacate 0 = .ok (.aload_n 0, 1) := by decide +kernel
theorem dX1_vacate_1 : decode cX1_vacate 1 = .ok (.getfield 50, 3) := by decide +kernel
theorem dX1_vacate_4 : decode cX1_vacate 4 = .ok (.istore_n 2, 1) := by decide +kernel
theorem dX1_vacate_5 : decode cX1_vacate 5 = .ok (.aload_n 0, 1) := by decide +kernel
theorem dX1_vacate_6 : decode cX1_vacate 6 = .ok (.getfield 22, 3) := by decide +kernel
theorem dX1_vacate_9 : decode cX1_vacate 9 = .ok (.iload_n 1, 1) := by decide +kernel
theorem dX1_vacate_10 : decode cX1_vacate 10 = .ok (.iconst 1, 1) := by decide +kernel
theorem dX1_vacate_11 : decode cX1_vacate 11 = .ok (.bastore, 1) := by decide +kernel
theorem dX1_vacate_12 : decode cX1_vacate 12 = .ok (.iconst 0, 1) := by decide +kernel
theorem dX1_vacate_13 : decode cX1_vacate 13 = .ok (.istore_n 3, 1) := by decide +kernel
theorem dX1_vacate_14 : decode cX1_vacate 14 = .ok (.iload_n 3, 1) := by decide +kernel
theorem dX1_vacate_15 : decode cX1_vacate 15 = .ok (.bipush 64, 2) := by decide +kernel
theorem dX1_vacate_17 : decode cX1_vacate 17 = .ok (.if_icmp .ge 43, 3) := by decide +kernel
theorem dX1_vacate_20 : decode cX1_vacate 20 = .ok (.aload_n 0, 1) := by decide +kernel
theorem dX1_vacate_21 : decode cX1_vacate 21 = .ok (.iload_n 3, 1) := by decide +kernel
theorem dX1_vacate_22 : decode cX1_vacate 22 = .ok (.invokevirtual 69, 3) := by decide +kernel
theorem dX1_vacate_25 : decode cX1_vacate 25 = .ok (.ifCond .eq 29, 3) := by decide +kernel
theorem dX1_vacate_28 : decode cX1_vacate 28 = .ok (.aload_n 0, 1) := by decide +kernel
theorem dX1_vacate_29 : decode cX1_vacate 29 = .ok (.iload_n 3, 1) := by decide +kernel
theorem dX1_vacate_30 : decode cX1_vacate 30 = .ok (.invokevirtual 83, 3) := by decide +kernel
theorem dX1_vacate_33 : decode cX1_vacate 33 = .ok (.ifCond .ne 21, 3) := by decide +kernel
theorem dX1_vacate_36 : decode cX1_vacate 36 = .ok (.aload_n 0, 1) := by decide +kernel
theorem dX1_vacate_37 : decode cX1_vacate 37 = .ok (.getfield 35, 3) := by decide +kernel
theorem dX1_vacate_40 : decode cX1_vacate 40 = .ok (.iload_n 3, 1) := by decide +kernel
theorem dX1_vacate_41 : decode cX1_vacate 41 = .ok (.iaload, 1) := by decide +kernel
theorem dX1_vacate_42 : decode cX1_vacate 42 = .ok (.invokestatic 80, 3) := by decide +kernel
theorem dX1_vacate_45 : decode cX1_vacate 45 = .ok (.iload_n 1, 1) := by decide +kernel
theorem dX1_vacate_46 : decode cX1_vacate 46 = .ok (.if_icmp .ne 8, 3) := by decide +kernel
theorem dX1_vacate_49 : decode cX1_vacate 49 = .ok (.aload_n 0, 1) := by decide +kernel
theorem dX1_vacate_50 : decode cX1_vacate 50 = .ok (.iload_n 3, 1) := by decide +kernel
theorem dX1_vacate_51 : decode cX1_vacate 51 = .ok (.invokevirtual 151, 3) := by decide +kernel
theorem dX1_vacate_54 : decode cX1_vacate 54 = .ok (.iinc 3 1, 3) := by decide +kernel
theorem dX1_vacate_57 : decode cX1_vacate 57 = .ok (.goto (-43), 3) := by decide +kernel
theorem dX1_vacate_60 : decode cX1_vacate 60 = .ok (.aload_n 0, 1) := by decide +kernel
theorem dX1_vacate_61 : decode cX1_vacate 61 = .ok (.getfield 50, 3) := by decide +kernel
theorem dX1_vacate_64 : decode cX1_vacate 64 = .ok (.iload_n 2, 1) := by decide +kernel
theorem dX1_vacate_65 : decode cX1_vacate 65 = .ok (.isub, 1) := by decide +kernel
theorem dX1_vacate_66 : decode cX1_vacate 66 = .ok (.ireturn, 1) := by decide +kernel
set_option maxRecDepth 20000 in
theorem ggX1_moveAway_X1_lendableTo : GoodIn wsX1_moveAway wsX1_lendableTo := goodIn_r _ [5, 6, 7, 8, 9, 10, 11, 4, 12, 13, 14, 15, 16, 17, 18, 19, 20, 21, 22, 23, 24, 25, 26, 27, 28, 29, 30, 31, 55, 56, 57, 58, 59, 60, 61, 62, 63, 64, 65, 66, 67, 68, 69] (by decide +kernel) (by decide +kernel)
set_option maxRecDepth 20000 in
theorem gX1_moveAway_X1_lendableTo : GoodIn wsX1_moveAway (wsV RX1 118 RX1 yX1_lendableTo wsX1_lendableTo) := goodIn_app (goodIn_of _ (by decide +kernel)) ggX1_moveAway_X1_lendableTo
set_option maxRecDepth 20000 in
theorem ggX1_moveAway_X1_lose : GoodIn wsX1_moveAway wsX1_lose := goodIn_r _ [35, 36, 37, 38, 39, 4, 40, 18, 41, 42, 43, 44, 45, 55, 56, 57, 58, 59, 60, 61, 62, 63, 64, 65, 66, 67, 68, 69] (by decide +kernel) (by decide +kernel)
set_option maxRecDepth 20000 in
theorem gX1_moveAway_X1_lose : GoodIn wsX1_moveAway (wsV RX1 139 RX1 yX1_lose wsX1_lose) := goodIn_app (goodIn_of _ (by decide +kernel)) ggX1_moveAway_X1_lose
set_option maxRecDepth 20000 in
theorem ggX1_moveAway_X1_lend : GoodIn wsX1_moveAway wsX1_lend := goodIn_r _ [49, 41, 18, 37, 38, 39, 4, 40, 42, 43, 44, 45, 55, 56, 57, 58, 59, 60, 61, 62, 63, 64, 65, 66, 67, 68, 69] (by decide +kernel) (by decide +kernel)
set_option maxRecDepth 20000 in
theorem gX1_moveAway_X1_lend : GoodIn wsX1_moveAway (wsV RX1 121 RX1 yX1_lend wsX1_lend) := goodIn_app (goodIn_of _ (by decide +kernel)) ggX1_moveAway_X1_lend
set_option maxRecDepth 20000 in
theorem ggX1_moveAway_X1_wearByWriting : GoodIn wsX1_moveAway wsX1_wearByWriting := goodIn_r _ [53, 26, 54, 6, 7, 8, 55, 56, 57, 58, 59, 60, 61, 62, 63, 64, 65, 66, 67, 68, 69] (by decide +kernel) (by decide +kernel)
set_option maxRecDepth 20000 in
theorem gX1_moveAway_X1_wearByWriting : GoodIn wsX1_moveAway (wsV RX1 124 RX1 yX1_wearByWriting wsX1_wearByWriting) := goodIn_app (goodIn_of _ (by decide +kernel)) ggX1_moveAway_X1_wearByWriting
theorem dX1_moveAway_0 : decode cX1_moveAway 0 = .ok (.aload_n 0, 1) := by decide +kernel
theorem dX1_moveAway_1 : decode cX1_moveAway 1 = .ok (.iload_n 1, 1) := by decide +kernel
theorem dX1_moveAway_2 : decode cX1_moveAway 2 = .ok (.invokevirtual 118, 3) := by decide +kernel
theorem dX1_moveAway_5 : decode cX1_moveAway 5 = .ok (.istore_n 2, 1) := by decide +kernel
theorem dX1_moveAway_6 : decode cX1_moveAway 6 = .ok (.iload_n 2, 1) := by decide +kernel
theorem dX1_moveAway_7 : decode cX1_moveAway 7 = .ok (.bipush (-5), 2) := by decide +kernel
theorem dX1_moveAway_9 : decode cX1_moveAway 9 = .ok (.if_icmp .ne 11, 3) := by decide +kernel
theorem dX1_moveAway_12 : decode cX1_moveAway 12 = .ok (.aload_n 0, 1) := by decide +kernel
theorem dX1_moveAway_13 : decode cX1_moveAway 13 = .ok (.iload_n 1, 1) := by decide +kernel
theorem dX1_moveAway_14 : decode cX1_moveAway 14 = .ok (.invokevirtual 139, 3) := by decide +kernel
theorem dX1_moveAway_17 : decode cX1_moveAway 17 = .ok (.goto 14, 3) := by decide +kernel
theorem dX1_moveAway_20 : decode cX1_moveAway 20 = .ok (.aload_n 0, 1) := by decide +kernel
theorem dX1_moveAway_21 : decode cX1_moveAway 21 = .ok (.iload_n 1, 1) := by decide +kernel
theorem dX1_moveAway_22 : decode cX1_moveAway 22 = .ok (.iload_n 2, 1) := by decide +kernel
theorem dX1_moveAway_23 : decode cX1_moveAway 23 = .ok (.invokevirtual 121, 3) := by decide +kernel
theorem dX1_moveAway_26 : decode cX1_moveAway 26 = .ok (.aload_n 0, 1) := by decide +kernel
theorem dX1_moveAway_27 : decode cX1_moveAway 27 = .ok (.iload_n 2, 1) := by decide +kernel
theorem dX1_moveAway_28 : decode cX1_moveAway 28 = .ok (.invokevirtual 124, 3) := by decide +kernel
theorem dX1_moveAway_31 : decode cX1_moveAway 31 = .ok (.return_, 1) := by decide +kernel
set_option maxRecDepth 20000 in
theorem ggX1_tellAddress_X1_isLost : GoodIn wsX1_tellAddress wsX1_isLost := goodIn_r _ [8, 2, 56, 57, 58, 59, 60, 61, 62, 63, 64, 65, 66, 67, 68, 69, 70] (by decide +kernel) (by decide +kernel)
set_option maxRecDepth 20000 in
theorem gX1_tellAddress_X1_isLost : GoodIn wsX1_tellAddress (wsV RX1 83 RX1 yX1_isLost wsX1_isLost) := goodIn_app (goodIn_of _ (by decide +kernel)) ggX1_tellAddress_X1_isLost
set_option maxRecDepth 20000 in
theorem ggX1_tellAddress_X1_isLongWay : GoodIn wsX1_tellAddress wsX1_isLongWay := goodIn_r _ [12, 2, 4, 5, 6, 7, 8, 56, 57, 58, 59, 60, 61, 62, 63, 64, 65, 66, 67, 68, 69, 70] (by decide +kernel) (by decide +kernel)
set_option maxRecDepth 20000 in
theorem gX1_tellAddress_X1_isLongWay : GoodIn wsX1_tellAddress (wsV RX1 148 RX1 yX1_isLongWay wsX1_isLongWay) := goodIn_app (goodIn_of _ (by decide +kernel)) ggX1_tellAddress_X1_isLongWay
set_option maxRecDepth 20000 in
theorem ggX1_tellAddress_X1_lendableTo : GoodIn wsX1_tellAddress wsX1_lendableTo := goodIn_r _ [16, 17, 18, 19, 20, 21, 22, 7, 23, 24, 25, 26, 27, 28, 29, 30, 31, 32, 33, 34, 35, 36, 37, 38, 39, 40, 41, 42, 56, 57, 58, 59, 60, 61, 62, 63, 64, 65, 66, 67, 68, 69, 70] (by decide +kernel) (by decide +kernel)
set_option maxRecDepth 20000 in
theorem gX1_tellAddress_X1_lendableTo : GoodIn wsX1_tellAddress (wsV RX1 118 RX1 yX1_lendableTo wsX1_lendableTo) := goodIn_app (goodIn_of _ (by decide +kernel)) ggX1_tellAddress_X1_lendableTo
set_option maxRecDepth 20000 in
theorem ggX1_tellAddress_X1_stepsTo : GoodIn wsX1_tellAddress wsX1_stepsTo := goodIn_r _ [46, 2, 30, 47, 17, 18, 19, 48, 49, 50, 51, 52, 53, 54, 31, 32, 55, 56, 57, 58, 59, 60, 61, 62, 63, 64, 65, 66, 67, 68, 69, 70] (by decide +kernel) (by decide +kernel)
set_option maxRecDepth 20000 in
theorem gX1_tellAddress_X1_stepsTo : GoodIn wsX1_tellAddress (wsV RX1 145 RX1 yX1_stepsTo wsX1_stepsTo) := goodIn_app (goodIn_of _ (by decide +kernel)) ggX1_tellAddress_X1_stepsTo
theorem dX1_tellAddress_0 : decode cX1_tellAddress 0 = .ok (.iload_n 2, 1) := by decide +kernel
theorem dX1_tellAddress_1 : decode cX1_tellAddress 1 = .ok (.tableswitch 112 0 5 #[39, 59, 66, 80, 86, 105], 39) := by decide +kernel
theorem dX1_tellAddress_40 : decode cX1_tellAddress 40 = .ok (.aload_n 0, 1) := by decide +kernel
theorem dX1_tellAddress_41 : decode cX1_tellAddress 41 = .ok (.iload_n 1, 1) := by decide +kernel
theorem dX1_tellAddress_42 : decode cX1_tellAddress 42 = .ok (.invokevirtual 83, 3) := by decide +kernel
theorem dX1_tellAddress_45 : decode cX1_tellAddress 45 = .ok (.ifCond .eq 8, 3) := by decide +kernel
theorem dX1_tellAddress_48 : decode cX1_tellAddress 48 = .ok (.bipush (-5), 2) := by decide +kernel
theorem dX1_tellAddress_50 : decode cX1_tellAddress 50 = .ok (.goto 9, 3) := by decide +kernel
theorem dX1_tellAddress_53 : decode cX1_tellAddress 53 = .ok (.aload_n 0, 1) := by decide +kernel
theorem dX1_tellAddress_54 : decode cX1_tellAddress 54 = .ok (.getfield 29, 3) := by decide +kernel
theorem dX1_tellAddress_57 : decode cX1_tellAddress 57 = .ok (.iload_n 1, 1) := by decide +kernel
theorem dX1_tellAddress_58 : decode cX1_tellAddress 58 = .ok (.iaload, 1) := by decide +kernel
theorem dX1_tellAddress_59 : decode cX1_tellAddress 59 = .ok (.ireturn, 1) := by decide +kernel
theorem dX1_tellAddress_60 : decode cX1_tellAddress 60 = .ok (.aload_n 0, 1) := by decide +kernel
theorem dX1_tellAddress_61 : decode cX1_tellAddress 61 = .ok (.getfield 35, 3) := by decide +kernel
theorem dX1_tellAddress_64 : decode cX1_tellAddress 64 = .ok (.iload_n 1, 1) := by decide +kernel
theorem dX1_tellAddress_65 : decode cX1_tellAddress 65 = .ok (.iaload, 1) := by decide +kernel
theorem dX1_tellAddress_66 : decode cX1_tellAddress 66 = .ok (.ireturn, 1) := by decide +kernel
theorem dX1_tellAddress_67 : decode cX1_tellAddress 67 = .ok (.aload_n 0, 1) := by decide +kernel
theorem dX1_tellAddress_68 : decode cX1_tellAddress 68 = .ok (.iload_n 1, 1) := by decide +kernel
theorem dX1_tellAddress_69 : decode cX1_tellAddress 69 = .ok (.invokevirtual 148, 3) := by decide +kernel
theorem dX1_tellAddress_72 : decode cX1_tellAddress 72 = .ok (.ifCond .eq 7, 3) := by decide +kernel
theorem dX1_tellAddress_75 : decode cX1_tellAddress 75 = .ok (.iconst 1, 1) := by decide +kernel
theorem dX1_tellAddress_76 : decode cX1_tellAddress 76 = .ok (.goto 4, 3) := by decide +kernel
theorem dX1_tellAddress_79 : decode cX1_tellAddress 79 = .ok (.iconst 0, 1) := by decide +kernel
theorem dX1_tellAddress_80 : decode cX1_tellAddress 80 = .ok (.ireturn, 1) := by decide +kernel
theorem dX1_tellAddress_81 : decode cX1_tellAddress 81 = .ok (.aload_n 0, 1) := by decide +kernel
theorem dX1_tellAddress_82 : decode cX1_tellAddress 82 = .ok (.iload_n 1, 1) := by decide +kernel
theorem dX1_tellAddress_83 : decode cX1_tellAddress 83 = .ok (.invokevirtual 118, 3) := by decide +kernel
theorem dX1_tellAddress_86 : decode cX1_tellAddress 86 = .ok (.ireturn, 1) := by decide +kernel
theorem dX1_tellAddress_87 : decode cX1_tellAddress 87 = .ok (.aload_n 0, 1) := by decide +kernel
theorem dX1_tellAddress_88 : decode cX1_tellAddress 88 = .ok (.iload_n 1, 1) := by decide +kernel
theorem dX1_tellAddress_89 : decode cX1_tellAddress 89 = .ok (.invokevirtual 83, 3) := by decide +kernel
theorem dX1_tellAddress_92 : decode cX1_tellAddress 92 = .ok (.ifCond .eq 8, 3) := by decide +kernel
theorem dX1_tellAddress_95 : decode cX1_tellAddress 95 = .ok (.bipush (-5), 2) := by decide +kernel
theorem dX1_tellAddress_97 : decode cX1_tellAddress 97 = .ok (.goto 8, 3) := by decide +kernel
theorem dX1_tellAddress_100 : decode cX1_tellAddress 100 = .ok (.aload_n 0, 1) := by decide +kernel
theorem dX1_tellAddress_101 : decode cX1_tellAddress 101 = .ok (.iload_n 1, 1) := by decide +kernel
theorem dX1_tellAddress_102 : decode cX1_tellAddress 102 = .ok (.invokevirtual 145, 3) := by decide +kernel
theorem dX1_tellAddress_105 : decode cX1_tellAddress 105 = .ok (.ireturn, 1) := by decide +kernel
theorem dX1_tellAddress_106 : decode cX1_tellAddress 106 = .ok (.aload_n 0, 1) := by decide +kernel
theorem dX1_tellAddress_107 : decode cX1_tellAddress 107 = .ok (.getfield 32, 3) := by decide +kernel
theorem dX1_tellAddress_110 : decode cX1_tellAddress 110 = .ok (.iload_n 1, 1) := by decide +kernel
theorem dX1_tellAddress_111 : decode cX1_tellAddress 111 = .ok (.iaload, 1) := by decide +kernel
theorem dX1_tellAddress_112 : decode cX1_tellAddress 112 = .ok (.ireturn, 1) := by decide +kernel
theorem dX1_tellAddress_113 : decode cX1_tellAddress 113 = .ok (.bipush (-2), 2) := by decide +kernel
theorem dX1_tellAddress_115 : decode cX1_tellAddress 115 = .ok (.ireturn, 1) := by decide +kernel
set_option maxRecDepth 20000 in
theorem ggX1_tellSector_X1_gradeOf : GoodIn wsX1_tellSector wsX1_gradeOf := goodIn_r _ [7, 8, 9, 10, 6, 11, 1, 12, 13, 14, 15, 16, 34, 35, 36, 37, 38, 39, 40, 41, 42, 43, 44, 45, 46, 47, 48] (by decide +kernel) (by decide +kernel)
set_option maxRecDepth 20000 in
theorem gX1_tellSector_X1_gradeOf : GoodIn wsX1_tellSector (wsV RX1 154 RX1 yX1_gradeOf wsX1_gradeOf) := goodIn_app (goodIn_of _ (by decide +kernel)) ggX1_tellSector_X1_gradeOf
set_option maxRecDepth 20000 in
theorem ggX1_tellSector_X1_isAddress : GoodIn wsX1_tellSector wsX1_isAddress := goodIn_r _ [20, 21, 22, 23, 24, 25, 26, 27, 28, 34, 35, 36, 37, 38, 39, 40, 41, 42, 43, 44, 45, 46, 47, 48] (by decide +kernel) (by decide +kernel)
set_option maxRecDepth 20000 in
theorem gX1_tellSector_X1_isAddress : GoodIn wsX1_tellSector (wsV RX1 69 RX1 yX1_isAddress wsX1_isAddress) := goodIn_app (goodIn_of _ (by decide +kernel)) ggX1_tellSector_X1_isAddress
set_option maxRecDepth 20000 in
theorem ggX1_tellSector_X1_isFree : GoodIn wsX1_tellSector wsX1_isFree := goodIn_r _ [32, 21, 2, 33, 27, 23, 28, 25, 26, 8, 9, 10, 6, 11, 1, 12, 34, 35, 36, 37, 38, 39, 40, 41, 42, 43, 44, 45, 46, 47, 48] (by decide +kernel) (by decide +kernel)
set_option maxRecDepth 20000 in
theorem gX1_tellSector_X1_isFree : GoodIn wsX1_tellSector (wsV RX1 92 RX1 yX1_isFree wsX1_isFree) := goodIn_app (goodIn_of _ (by decide +kernel)) ggX1_tellSector_X1_isFree
theorem dX1_tellSector_0 : decode cX1_tellSector 0 = .ok (.iload_n 2, 1) := by decide +kernel
theorem dX1_tellSector_1 : decode cX1_tellSector 1 = .ok (.tableswitch 83 0 4 #[35, 42, 48, 62, 69], 35) := by decide +kernel
theorem dX1_tellSector_36 : decode cX1_tellSector 36 = .ok (.aload_n 0, 1) := by decide +kernel
theorem dX1_tellSector_37 : decode cX1_tellSector 37 = .ok (.getfield 26, 3) := by decide +kernel
theorem dX1_tellSector_40 : decode cX1_tellSector 40 = .ok (.iload_n 1, 1) := by decide +kernel
theorem dX1_tellSector_41 : decode cX1_tellSector 41 = .ok (.iaload, 1) := by decide +kernel
theorem dX1_tellSector_42 : decode cX1_tellSector 42 = .ok (.ireturn, 1) := by decide +kernel
theorem dX1_tellSector_43 : decode cX1_tellSector 43 = .ok (.aload_n 0, 1) := by decide +kernel
theorem dX1_tellSector_44 : decode cX1_tellSector 44 = .ok (.iload_n 1, 1) := by decide +kernel
theorem dX1_tellSector_45 : decode cX1_tellSector 45 = .ok (.invokevirtual 154, 3) := by decide +kernel
theorem dX1_tellSector_48 : decode cX1_tellSector 48 = .ok (.ireturn, 1) := by decide +kernel
theorem dX1_tellSector_49 : decode cX1_tellSector 49 = .ok (.aload_n 0, 1) := by decide +kernel
theorem dX1_tellSector_50 : decode cX1_tellSector 50 = .ok (.iload_n 1, 1) := by decide +kernel
theorem dX1_tellSector_51 : decode cX1_tellSector 51 = .ok (.invokevirtual 69, 3) := by decide +kernel
theorem dX1_tellSector_54 : decode cX1_tellSector 54 = .ok (.ifCond .eq 7, 3) := by decide +kernel
theorem dX1_tellSector_57 : decode cX1_tellSector 57 = .ok (.iconst 0, 1) := by decide +kernel
theorem dX1_tellSector_58 : decode cX1_tellSector 58 = .ok (.goto 4, 3) := by decide +kernel
theorem dX1_tellSector_61 : decode cX1_tellSector 61 = .ok (.iconst 1, 1) := by decide +kernel
theorem dX1_tellSector_62 : decode cX1_tellSector 62 = .ok (.ireturn, 1) := by decide +kernel
theorem dX1_tellSector_63 : decode cX1_tellSector 63 = .ok (.aload_n 0, 1) := by decide +kernel
theorem dX1_tellSector_64 : decode cX1_tellSector 64 = .ok (.getfield 38, 3) := by decide +kernel
theorem dX1_tellSector_67 : decode cX1_tellSector 67 = .ok (.iload_n 1, 1) := by decide +kernel
theorem dX1_tellSector_68 : decode cX1_tellSector 68 = .ok (.iaload, 1) := by decide +kernel
theorem dX1_tellSector_69 : decode cX1_tellSector 69 = .ok (.ireturn, 1) := by decide +kernel
theorem dX1_tellSector_70 : decode cX1_tellSector 70 = .ok (.aload_n 0, 1) := by decide +kernel
theorem dX1_tellSector_71 : decode cX1_tellSector 71 = .ok (.iload_n 1, 1) := by decide +kernel
theorem dX1_tellSector_72 : decode cX1_tellSector 72 = .ok (.invokevirtual 92, 3) := by decide +kernel
theorem dX1_tellSector_75 : decode cX1_tellSector 75 = .ok (.ifCond .eq 7, 3) := by decide +kernel
theorem dX1_tellSector_78 : decode cX1_tellSector 78 = .ok (.iconst 1, 1) := by decide +kernel
theorem dX1_tellSector_79 : decode cX1_tellSector 79 = .ok (.goto 4, 3) := by decide +kernel
theorem dX1_tellSector_82 : decode cX1_tellSector 82 = .ok (.iconst 0, 1) := by decide +kernel
theorem dX1_tellSector_83 : decode cX1_tellSector 83 = .ok (.ireturn, 1) := by decide +kernel
theorem dX1_tellSector_84 : decode cX1_tellSector 84 = .ok (.bipush (-2), 2) := by decide +kernel
theorem dX1_tellSector_86 : decode cX1_tellSector 86 = .ok (.ireturn, 1) := by decide +kernel
set_option maxRecDepth 20000 in
theorem ggX1_tellHead_X1_freeOf : GoodIn wsX1_tellHead wsX1_freeOf := goodIn_r _ [10, 11, 12, 13, 9, 14, 2, 4, 3, 15, 16, 17, 18, 19, 20, 21, 22, 23, 24, 25, 54, 55, 56, 57, 58, 59, 60, 61, 62, 63, 64, 65, 66, 67, 68] (by decide +kernel) (by decide +kernel)
set_option maxRecDepth 20000 in
theorem gX1_tellHead_X1_freeOf : GoodIn wsX1_tellHead (wsV RX1 98 RX1 yX1_freeOf wsX1_freeOf) := goodIn_app (goodIn_of _ (by decide +kernel)) ggX1_tellHead_X1_freeOf
set_option maxRecDepth 20000 in
theorem ggX1_tellHead_X1_leadingElsewhere : GoodIn wsX1_tellHead wsX1_leadingElsewhere := goodIn_r _ [29, 15, 16, 17] (by decide +kernel) (by decide +kernel)
set_option maxRecDepth 20000 in
theorem gX1_tellHead_X1_leadingElsewhere : GoodIn wsX1_tellHead (wsV RX1 157 RX1 yX1_leadingElsewhere wsX1_leadingElsewhere) := goodIn_app (goodIn_of _ (by decide +kernel)) ggX1_tellHead_X1_leadingElsewhere
set_option maxRecDepth 20000 in
theorem ggX1_tellHead_X1_lostOf : GoodIn wsX1_tellHead wsX1_lostOf := goodIn_r _ [33, 2, 34, 35, 36, 9, 37, 5, 54, 55, 56, 57, 58, 59, 60, 61, 62, 63, 64, 65, 66, 67, 68] (by decide +kernel) (by decide +kernel)
set_option maxRecDepth 20000 in
theorem gX1_tellHead_X1_lostOf : GoodIn wsX1_tellHead (wsV RX1 133 RX1 yX1_lostOf wsX1_lostOf) := goodIn_app (goodIn_of _ (by decide +kernel)) ggX1_tellHead_X1_lostOf
set_option maxRecDepth 20000 in
theorem ggX1_tellHead_X1_wearOf : GoodIn wsX1_tellHead wsX1_wearOf := goodIn_r _ [41, 24, 54, 55, 56, 57, 58, 59, 60, 61, 62, 63, 64, 65, 66, 67, 68] (by decide +kernel) (by decide +kernel)
set_option maxRecDepth 20000 in
theorem gX1_tellHead_X1_wearOf : GoodIn wsX1_tellHead (wsV RX1 105 RX1 yX1_wearOf wsX1_wearOf) := goodIn_app (goodIn_of _ (by decide +kernel)) ggX1_tellHead_X1_wearOf
set_option maxRecDepth 20000 in
theorem ggX1_tellHead_X1_gradedOf : GoodIn wsX1_tellHead wsX1_gradedOf := goodIn_r _ [45, 46, 47, 48, 9, 49, 20, 21, 22, 23, 24, 25, 50, 51, 52, 53, 54, 55, 56, 57, 58, 59, 60, 61, 62, 63, 64, 65, 66, 67, 68] (by decide +kernel) (by decide +kernel)
set_option maxRecDepth 20000 in
theorem gX1_tellHead_X1_gradedOf : GoodIn wsX1_tellHead (wsV RX1 161 RX1 yX1_gradedOf wsX1_gradedOf) := goodIn_app (goodIn_of _ (by decide +kernel)) ggX1_tellHead_X1_gradedOf
theorem dX1_tellHead_0 : decode cX1_tellHead 0 = .ok (.iload_n 2, 1) := by decide +kernel
theorem dX1_tellHead_1 : decode cX1_tellHead 1 = .ok (.tableswitch 136 0 9 #[55, 62, 69, 75, 90, 100, 110, 116, 122, 129], 55) := by decide +kernel
theorem dX1_tellHead_56 : decode cX1_tellHead 56 = .ok (.aload_n 0, 1) := by decide +kernel
theorem dX1_tellHead_57 : decode cX1_tellHead 57 = .ok (.getfield 15, 3) := by decide +kernel
theorem dX1_tellHead_60 : decode cX1_tellHead 60 = .ok (.iload_n 1, 1) := by decide +kernel
theorem dX1_tellHead_61 : decode cX1_tellHead 61 = .ok (.iaload, 1) := by decide +kernel
theorem dX1_tellHead_62 : decode cX1_tellHead 62 = .ok (.ireturn, 1) := by decide +kernel
theorem dX1_tellHead_63 : decode cX1_tellHead 63 = .ok (.aload_n 0, 1) := by decide +kernel
theorem dX1_tellHead_64 : decode cX1_tellHead 64 = .ok (.getfield 19, 3) := by decide +kernel
theorem dX1_tellHead_67 : decode cX1_tellHead 67 = .ok (.iload_n 1, 1) := by decide +kernel
theorem dX1_tellHead_68 : decode cX1_tellHead 68 = .ok (.iaload, 1) := by decide +kernel
theorem dX1_tellHead_69 : decode cX1_tellHead 69 = .ok (.ireturn, 1) := by decide +kernel
theorem dX1_tellHead_70 : decode cX1_tellHead 70 = .ok (.aload_n 0, 1) := by decide +kernel
theorem dX1_tellHead_71 : decode cX1_tellHead 71 = .ok (.iload_n 1, 1) := by decide +kernel
theorem dX1_tellHead_72 : decode cX1_tellHead 72 = .ok (.invokevirtual 98, 3) := by decide +kernel
theorem dX1_tellHead_75 : decode cX1_tellHead 75 = .ok (.ireturn, 1) := by decide +kernel
theorem dX1_tellHead_76 : decode cX1_tellHead 76 = .ok (.aload_n 0, 1) := by decide +kernel
theorem dX1_tellHead_77 : decode cX1_tellHead 77 = .ok (.getfield 22, 3) := by decide +kernel
theorem dX1_tellHead_80 : decode cX1_tellHead 80 = .ok (.iload_n 1, 1) := by decide +kernel
theorem dX1_tellHead_81 : decode cX1_tellHead 81 = .ok (.baload, 1) := by decide +kernel
theorem dX1_tellHead_82 : decode cX1_tellHead 82 = .ok (.ifCond .eq 7, 3) := by decide +kernel
theorem dX1_tellHead_85 : decode cX1_tellHead 85 = .ok (.iconst 1, 1) := by decide +kernel
theorem dX1_tellHead_86 : decode cX1_tellHead 86 = .ok (.goto 4, 3) := by decide +kernel
theorem dX1_tellHead_89 : decode cX1_tellHead 89 = .ok (.iconst 0, 1) := by decide +kernel
theorem dX1_tellHead_90 : decode cX1_tellHead 90 = .ok (.ireturn, 1) := by decide +kernel
theorem dX1_tellHead_91 : decode cX1_tellHead 91 = .ok (.aload_n 0, 1) := by decide +kernel
theorem dX1_tellHead_92 : decode cX1_tellHead 92 = .ok (.aload_n 0, 1) := by decide +kernel
theorem dX1_tellHead_93 : decode cX1_tellHead 93 = .ok (.getfield 38, 3) := by decide +kernel
theorem dX1_tellHead_96 : decode cX1_tellHead 96 = .ok (.iload_n 1, 1) := by decide +kernel
theorem dX1_tellHead_97 : decode cX1_tellHead 97 = .ok (.invokevirtual 157, 3) := by decide +kernel
theorem dX1_tellHead_100 : decode cX1_tellHead 100 = .ok (.ireturn, 1) := by decide +kernel
theorem dX1_tellHead_101 : decode cX1_tellHead 101 = .ok (.aload_n 0, 1) := by decide +kernel
theorem dX1_tellHead_102 : decode cX1_tellHead 102 = .ok (.aload_n 0, 1) := by decide +kernel
theorem dX1_tellHead_103 : decode cX1_tellHead 103 = .ok (.getfield 35, 3) := by decide +kernel
theorem dX1_tellHead_106 : decode cX1_tellHead 106 = .ok (.iload_n 1, 1) := by decide +kernel
theorem dX1_tellHead_107 : decode cX1_tellHead 107 = .ok (.invokevirtual 157, 3) := by decide +kernel
theorem dX1_tellHead_110 : decode cX1_tellHead 110 = .ok (.ireturn, 1) := by decide +kernel
theorem dX1_tellHead_111 : decode cX1_tellHead 111 = .ok (.aload_n 0, 1) := by decide +kernel
theorem dX1_tellHead_112 : decode cX1_tellHead 112 = .ok (.iload_n 1, 1) := by decide +kernel
theorem dX1_tellHead_113 : decode cX1_tellHead 113 = .ok (.invokevirtual 133, 3) := by decide +kernel
theorem dX1_tellHead_116 : decode cX1_tellHead 116 = .ok (.ireturn, 1) := by decide +kernel
theorem dX1_tellHead_117 : decode cX1_tellHead 117 = .ok (.aload_n 0, 1) := by decide +kernel
theorem dX1_tellHead_118 : decode cX1_tellHead 118 = .ok (.iload_n 1, 1) := by decide +kernel
theorem dX1_tellHead_119 : decode cX1_tellHead 119 = .ok (.invokevirtual 105, 3) := by decide +kernel
theorem dX1_tellHead_122 : decode cX1_tellHead 122 = .ok (.ireturn, 1) := by decide +kernel
theorem dX1_tellHead_123 : decode cX1_tellHead 123 = .ok (.aload_n 0, 1) := by decide +kernel
theorem dX1_tellHead_124 : decode cX1_tellHead 124 = .ok (.iload_n 1, 1) := by decide +kernel
theorem dX1_tellHead_125 : decode cX1_tellHead 125 = .ok (.iconst 1, 1) := by decide +kernel
theorem dX1_tellHead_126 : decode cX1_tellHead 126 = .ok (.invokevirtual 161, 3) := by decide +kernel
theorem dX1_tellHead_129 : decode cX1_tellHead 129 = .ok (.ireturn, 1) := by decide +kernel
theorem dX1_tellHead_130 : decode cX1_tellHead 130 = .ok (.aload_n 0, 1) := by decide +kernel
theorem dX1_tellHead_131 : decode cX1_tellHead 131 = .ok (.iload_n 1, 1) := by decide +kernel
theorem dX1_tellHead_132 : decode cX1_tellHead 132 = .ok (.iconst 2, 1) := by decide +kernel
theorem dX1_tellHead_133 : decode cX1_tellHead 133 = .ok (.invokevirtual 161, 3) := by decide +kernel
theorem dX1_tellHead_136 : decode cX1_tellHead 136 = .ok (.ireturn, 1) := by decide +kernel
theorem dX1_tellHead_137 : decode cX1_tellHead 137 = .ok (.bipush (-2), 2) := by decide +kernel
theorem dX1_tellHead_139 : decode cX1_tellHead 139 = .ok (.ireturn, 1) := by decide +kernel
set_option maxRecDepth 20000 in
theorem ggX1_tellWhole_X1_overHeads : GoodIn wsX1_tellWhole wsX1_overHeads := goodIn_r _ [12, 13, 14, 15, 11, 16, 17, 18, 19, 20, 21, 22, 23, 24, 25, 26, 27, 28, 29, 30, 31, 32, 33, 34, 35, 36, 37, 38, 39, 1, 40, 41, 42, 43, 44, 45, 46, 47, 48, 49, 50, 51, 52, 53, 54, 55, 56, 57, 58, 59, 60, 61, 62, 63, 64, 65, 66, 67, 82, 83, 84, 85, 86, 87, 88, 89, 90, 91, 92, 93, 94, 95, 96] (by decide +kernel) (by decide +kernel)
set_option maxRecDepth 20000 in
theorem gX1_tellWhole_X1_overHeads : GoodIn wsX1_tellWhole (wsV RX1 164 RX1 yX1_overHeads wsX1_overHeads) := goodIn_app (goodIn_of _ (by decide +kernel)) ggX1_tellWhole_X1_overHeads
set_option maxRecDepth 20000 in
theorem ggX1_tellWhole_X1_longWayCount : GoodIn wsX1_tellWhole wsX1_longWayCount := goodIn_r _ [71, 72, 73, 74, 11, 75, 18, 76, 31, 77, 33, 34, 30, 32, 78, 79, 80, 81, 21, 48, 49, 50, 51, 82, 83, 84, 85, 86, 87, 88, 89, 90, 91, 92, 93, 94, 95, 96] (by decide +kernel) (by decide +kernel)
set_option maxRecDepth 20000 in
theorem gX1_tellWhole_X1_longWayCount : GoodIn wsX1_tellWhole (wsV RX1 167 RX1 yX1_longWayCount wsX1_longWayCount) := goodIn_app (goodIn_of _ (by decide +kernel)) ggX1_tellWhole_X1_longWayCount
set_option maxRecDepth 20000 in
theorem ggX1_tellWhole_X3_placeOf : GoodIn wsX1_tellWhole wsX3_placeOf := goodIn_r _ [34] (by decide +kernel) (by decide +kernel)
set_option maxRecDepth 20000 in
theorem gX1_tellWhole_X3_placeOf_n76 : GoodIn wsX1_tellWhole (wsX3_placeOf) := ggX1_tellWhole_X3_placeOf
set_option maxRecDepth 20000 in
theorem ggX1_tellWhole_X3_headOf : GoodIn wsX1_tellWhole wsX3_headOf := goodIn_r _ [32] (by decide +kernel) (by decide +kernel)
set_option maxRecDepth 20000 in
theorem gX1_tellWhole_X3_headOf_n80 : GoodIn wsX1_tellWhole (wsX3_headOf) := ggX1_tellWhole_X3_headOf
theorem dX1_tellWhole_0 : decode cX1_tellWhole 0 = .ok (.iload_n 1, 1) := by decide +kernel
theorem dX1_tellWhole_1 : decode cX1_tellWhole 1 = .ok (.tableswitch 136 0 11 #[63, 68, 77, 84, 89, 95, 103, 111, 116, 121, 126, 131], 63) := by decide +kernel
theorem dX1_tellWhole_64 : decode cX1_tellWhole 64 = .ok (.aload_n 0, 1) := by decide +kernel
theorem dX1_tellWhole_65 : decode cX1_tellWhole 65 = .ok (.getfield 9, 3) := by decide +kernel
theorem dX1_tellWhole_68 : decode cX1_tellWhole 68 = .ok (.ireturn, 1) := by decide +kernel
theorem dX1_tellWhole_69 : decode cX1_tellWhole 69 = .ok (.bipush 64, 2) := by decide +kernel
theorem dX1_tellWhole_71 : decode cX1_tellWhole 71 = .ok (.aload_n 0, 1) := by decide +kernel
theorem dX1_tellWhole_72 : decode cX1_tellWhole 72 = .ok (.iconst 1, 1) := by decide +kernel
theorem dX1_tellWhole_73 : decode cX1_tellWhole 73 = .ok (.invokevirtual 164, 3) := by decide +kernel
theorem dX1_tellWhole_76 : decode cX1_tellWhole 76 = .ok (.isub, 1) := by decide +kernel
theorem dX1_tellWhole_77 : decode cX1_tellWhole 77 = .ok (.ireturn, 1) := by decide +kernel
theorem dX1_tellWhole_78 : decode cX1_tellWhole 78 = .ok (.aload_n 0, 1) := by decide +kernel
theorem dX1_tellWhole_79 : decode cX1_tellWhole 79 = .ok (.bipush 6, 2) := by decide +kernel
theorem dX1_tellWhole_81 : decode cX1_tellWhole 81 = .ok (.invokevirtual 164, 3) := by decide +kernel
theorem dX1_tellWhole_84 : decode cX1_tellWhole 84 = .ok (.ireturn, 1) := by decide +kernel
theorem dX1_tellWhole_85 : decode cX1_tellWhole 85 = .ok (.aload_n 0, 1) := by decide +kernel
theorem dX1_tellWhole_86 : decode cX1_tellWhole 86 = .ok (.invokevirtual 167, 3) := by decide +kernel
theorem dX1_tellWhole_89 : decode cX1_tellWhole 89 = .ok (.ireturn, 1) := by decide +kernel
theorem dX1_tellWhole_90 : decode cX1_tellWhole 90 = .ok (.aload_n 0, 1) := by decide +kernel
theorem dX1_tellWhole_91 : decode cX1_tellWhole 91 = .ok (.iconst 2, 1) := by decide +kernel
theorem dX1_tellWhole_92 : decode cX1_tellWhole 92 = .ok (.invokevirtual 164, 3) := by decide +kernel
theorem dX1_tellWhole_95 : decode cX1_tellWhole 95 = .ok (.ireturn, 1) := by decide +kernel
theorem dX1_tellWhole_96 : decode cX1_tellWhole 96 = .ok (.aload_n 0, 1) := by decide +kernel
theorem dX1_tellWhole_97 : decode cX1_tellWhole 97 = .ok (.getfield 41, 3) := by decide +kernel
theorem dX1_tellWhole_100 : decode cX1_tellWhole 100 = .ok (.invokestatic 76, 3) := by decide +kernel
theorem dX1_tellWhole_103 : decode cX1_tellWhole 103 = .ok (.ireturn, 1) := by decide +kernel
theorem dX1_tellWhole_104 : decode cX1_tellWhole 104 = .ok (.aload_n 0, 1) := by decide +kernel
theorem dX1_tellWhole_105 : decode cX1_tellWhole 105 = .ok (.getfield 41, 3) := by decide +kernel
theorem dX1_tellWhole_108 : decode cX1_tellWhole 108 = .ok (.invokestatic 80, 3) := by decide +kernel
theorem dX1_tellWhole_111 : decode cX1_tellWhole 111 = .ok (.ireturn, 1) := by decide +kernel
theorem dX1_tellWhole_112 : decode cX1_tellWhole 112 = .ok (.aload_n 0, 1) := by decide +kernel
theorem dX1_tellWhole_113 : decode cX1_tellWhole 113 = .ok (.getfield 44, 3) := by decide +kernel
theorem dX1_tellWhole_116 : decode cX1_tellWhole 116 = .ok (.ireturn, 1) := by decide +kernel
theorem dX1_tellWhole_117 : decode cX1_tellWhole 117 = .ok (.aload_n 0, 1) := by decide +kernel
theorem dX1_tellWhole_118 : decode cX1_tellWhole 118 = .ok (.getfield 47, 3) := by decide +kernel
theorem dX1_tellWhole_121 : decode cX1_tellWhole 121 = .ok (.ireturn, 1) := by decide +kernel
theorem dX1_tellWhole_122 : decode cX1_tellWhole 122 = .ok (.aload_n 0, 1) := by decide +kernel
theorem dX1_tellWhole_123 : decode cX1_tellWhole 123 = .ok (.getfield 50, 3) := by decide +kernel
theorem dX1_tellWhole_126 : decode cX1_tellWhole 126 = .ok (.ireturn, 1) := by decide +kernel
theorem dX1_tellWhole_127 : decode cX1_tellWhole 127 = .ok (.aload_n 0, 1) := by decide +kernel
theorem dX1_tellWhole_128 : decode cX1_tellWhole 128 = .ok (.getfield 53, 3) := by decide +kernel
theorem dX1_tellWhole_131 : decode cX1_tellWhole 131 = .ok (.ireturn, 1) := by decide +kernel
theorem dX1_tellWhole_132 : decode cX1_tellWhole 132 = .ok (.aload_n 0, 1) := by decide +kernel
theorem dX1_tellWhole_133 : decode cX1_tellWhole 133 = .ok (.getfield 56, 3) := by decide +kernel
theorem dX1_tellWhole_136 : decode cX1_tellWhole 136 = .ok (.ireturn, 1) := by decide +kernel
theorem dX1_tellWhole_137 : decode cX1_tellWhole 137 = .ok (.bipush (-2), 2) := by decide +kernel
theorem dX1_tellWhole_139 : decode cX1_tellWhole 139 = .ok (.ireturn, 1) := by decide +kernel
set_option maxRecDepth 20000 in
theorem ggX1_readsUntilChange_X1_isAddress : GoodIn wsX1_readsUntilChange wsX1_isAddress := goodIn_r _ [9, 10, 11, 12, 13, 14, 15, 16, 17, 44, 45, 46, 47, 48, 49, 50, 51, 52, 53, 54, 55, 56, 57, 58] (by decide +kernel) (by decide +kernel)
set_option maxRecDepth 20000 in
theorem gX1_readsUntilChange_X1_isAddress : GoodIn wsX1_readsUntilChange (wsV RX1 69 RX1 yX1_isAddress wsX1_isAddress) := goodIn_app (goodIn_of _ (by decide +kernel)) ggX1_readsUntilChange_X1_isAddress
set_option maxRecDepth 20000 in
theorem ggX1_readsUntilChange_X1_isLost : GoodIn wsX1_readsUntilChange wsX1_isLost := goodIn_r _ [21, 1, 44, 45, 46, 47, 48, 49, 50, 51, 52, 53, 54, 55, 56, 57, 58] (by decide +kernel) (by decide +kernel)
set_option maxRecDepth 20000 in
theorem gX1_readsUntilChange_X1_isLost : GoodIn wsX1_readsUntilChange (wsV RX1 83 RX1 yX1_isLost wsX1_isLost) := goodIn_app (goodIn_of _ (by decide +kernel)) ggX1_readsUntilChange_X1_isLost
set_option maxRecDepth 20000 in
theorem ggX1_readsUntilChange_X1_lendableTo : GoodIn wsX1_readsUntilChange wsX1_lendableTo := goodIn_r _ [25, 16, 12, 17, 26, 27, 28, 8, 29, 30, 31, 32, 33, 10, 34, 35, 14, 15, 36, 37, 38, 39, 3, 2, 40, 41, 42, 43, 44, 45, 46, 47, 48, 49, 50, 51, 52, 53, 54, 55, 56, 57, 58] (by decide +kernel) (by decide +kernel)
set_option maxRecDepth 20000 in
theorem gX1_readsUntilChange_X1_lendableTo : GoodIn wsX1_readsUntilChange (wsV RX1 118 RX1 yX1_lendableTo wsX1_lendableTo) := goodIn_app (goodIn_of _ (by decide +kernel)) ggX1_readsUntilChange_X1_lendableTo
set_option maxRecDepth 20000 in
theorem ggX1_readsUntilChange_X3_headOf : GoodIn wsX1_readsUntilChange wsX3_headOf := goodIn_r _ [17] (by decide +kernel) (by decide +kernel)
set_option maxRecDepth 20000 in
theorem gX1_readsUntilChange_X3_headOf_n80 : GoodIn wsX1_readsUntilChange (wsX3_headOf) := ggX1_readsUntilChange_X3_headOf
theorem dX1_readsUntilChange_0 : decode cX1_readsUntilChange 0 = .ok (.aload_n 0, 1) := by decide +kernel
theorem dX1_readsUntilChange_1 : decode cX1_readsUntilChange 1 = .ok (.iload_n 1, 1) := by decide +kernel
theorem dX1_readsUntilChange_2 : decode cX1_readsUntilChange 2 = .ok (.invokevirtual 69, 3) := by decide +kernel
theorem dX1_readsUntilChange_5 : decode cX1_readsUntilChange 5 = .ok (.ifCond .ne 5, 3) := by decide +kernel
theorem dX1_readsUntilChange_8 : decode cX1_readsUntilChange 8 = .ok (.iconst (-1), 1) := by decide +kernel
theorem dX1_readsUntilChange_9 : decode cX1_readsUntilChange 9 = .ok (.ireturn, 1) := by decide +kernel
theorem dX1_readsUntilChange_10 : decode cX1_readsUntilChange 10 = .ok (.aload_n 0, 1) := by decide +kernel
theorem dX1_readsUntilChange_11 : decode cX1_readsUntilChange 11 = .ok (.iload_n 1, 1) := by decide +kernel
theorem dX1_readsUntilChange_12 : decode cX1_readsUntilChange 12 = .ok (.invokevirtual 83, 3) := by decide +kernel
theorem dX1_readsUntilChange_15 : decode cX1_readsUntilChange 15 = .ok (.ifCond .eq 6, 3) := by decide +kernel
theorem dX1_readsUntilChange_18 : decode cX1_readsUntilChange 18 = .ok (.bipush (-4), 2) := by decide +kernel
theorem dX1_readsUntilChange_20 : decode cX1_readsUntilChange 20 = .ok (.ireturn, 1) := by decide +kernel
theorem dX1_readsUntilChange_21 : decode cX1_readsUntilChange 21 = .ok (.aload_n 0, 1) := by decide +kernel
theorem dX1_readsUntilChange_22 : decode cX1_readsUntilChange 22 = .ok (.getfield 35, 3) := by decide +kernel
theorem dX1_readsUntilChange_25 : decode cX1_readsUntilChange 25 = .ok (.iload_n 1, 1) := by decide +kernel
theorem dX1_readsUntilChange_26 : decode cX1_readsUntilChange 26 = .ok (.iaload, 1) := by decide +kernel
theorem dX1_readsUntilChange_27 : decode cX1_readsUntilChange 27 = .ok (.istore_n 2, 1) := by decide +kernel
theorem dX1_readsUntilChange_28 : decode cX1_readsUntilChange 28 = .ok (.aload_n 0, 1) := by decide +kernel
theorem dX1_readsUntilChange_29 : decode cX1_readsUntilChange 29 = .ok (.iload_n 1, 1) := by decide +kernel
theorem dX1_readsUntilChange_30 : decode cX1_readsUntilChange 30 = .ok (.invokevirtual 118, 3) := by decide +kernel
theorem dX1_readsUntilChange_33 : decode cX1_readsUntilChange 33 = .ok (.bipush (-5), 2) := by decide +kernel
theorem dX1_readsUntilChange_35 : decode cX1_readsUntilChange 35 = .ok (.if_icmp .eq 10, 3) := by decide +kernel
theorem dX1_readsUntilChange_38 : decode cX1_readsUntilChange 38 = .ok (.aload_n 0, 1) := by decide +kernel
theorem dX1_readsUntilChange_39 : decode cX1_readsUntilChange 39 = .ok (.getfield 9, 3) := by decide +kernel
theorem dX1_readsUntilChange_42 : decode cX1_readsUntilChange 42 = .ok (.goto 9, 3) := by decide +kernel
theorem dX1_readsUntilChange_45 : decode cX1_readsUntilChange 45 = .ok (.iconst 2, 1) := by decide +kernel
theorem dX1_readsUntilChange_46 : decode cX1_readsUntilChange 46 = .ok (.aload_n 0, 1) := by decide +kernel
theorem dX1_readsUntilChange_47 : decode cX1_readsUntilChange 47 = .ok (.getfield 9, 3) := by decide +kernel
theorem dX1_readsUntilChange_50 : decode cX1_readsUntilChange 50 = .ok (.imul, 1) := by decide +kernel
theorem dX1_readsUntilChange_51 : decode cX1_readsUntilChange 51 = .ok (.istore_n 3, 1) := by decide +kernel
theorem dX1_readsUntilChange_52 : decode cX1_readsUntilChange 52 = .ok (.aload_n 0, 1) := by decide +kernel
theorem dX1_readsUntilChange_53 : decode cX1_readsUntilChange 53 = .ok (.getfield 26, 3) := by decide +kernel
theorem dX1_readsUntilChange_56 : decode cX1_readsUntilChange 56 = .ok (.iload_n 2, 1) := by decide +kernel
theorem dX1_readsUntilChange_57 : decode cX1_readsUntilChange 57 = .ok (.iaload, 1) := by decide +kernel
theorem dX1_readsUntilChange_58 : decode cX1_readsUntilChange 58 = .ok (.istore 4, 2) := by decide +kernel
theorem dX1_readsUntilChange_60 : decode cX1_readsUntilChange 60 = .ok (.iconst 1, 1) := by decide +kernel
theorem dX1_readsUntilChange_61 : decode cX1_readsUntilChange 61 = .ok (.istore 5, 2) := by decide +kernel
theorem dX1_readsUntilChange_63 : decode cX1_readsUntilChange 63 = .ok (.iload 5, 2) := by decide +kernel
theorem dX1_readsUntilChange_65 : decode cX1_readsUntilChange 65 = .ok (.sipush 2000, 3) := by decide +kernel
theorem dX1_readsUntilChange_68 : decode cX1_readsUntilChange 68 = .ok (.if_icmp .gt 32, 3) := by decide +kernel
theorem dX1_readsUntilChange_71 : decode cX1_readsUntilChange 71 = .ok (.iload 4, 2) := by decide +kernel
theorem dX1_readsUntilChange_73 : decode cX1_readsUntilChange 73 = .ok (.aload_n 0, 1) := by decide +kernel
theorem dX1_readsUntilChange_74 : decode cX1_readsUntilChange 74 = .ok (.getfield 15, 3) := by decide +kernel
theorem dX1_readsUntilChange_77 : decode cX1_readsUntilChange 77 = .ok (.iload_n 2, 1) := by decide +kernel
theorem dX1_readsUntilChange_78 : decode cX1_readsUntilChange 78 = .ok (.invokestatic 80, 3) := by decide +kernel
theorem dX1_readsUntilChange_81 : decode cX1_readsUntilChange 81 = .ok (.iaload, 1) := by decide +kernel
theorem dX1_readsUntilChange_82 : decode cX1_readsUntilChange 82 = .ok (.iadd, 1) := by decide +kernel
theorem dX1_readsUntilChange_83 : decode cX1_readsUntilChange 83 = .ok (.istore 4, 2) := by decide +kernel
theorem dX1_readsUntilChange_85 : decode cX1_readsUntilChange 85 = .ok (.iload 4, 2) := by decide +kernel
theorem dX1_readsUntilChange_87 : decode cX1_readsUntilChange 87 = .ok (.iload_n 3, 1) := by decide +kernel
theorem dX1_readsUntilChange_88 : decode cX1_readsUntilChange 88 = .ok (.if_icmp .lt 6, 3) := by decide +kernel
theorem dX1_readsUntilChange_91 : decode cX1_readsUntilChange 91 = .ok (.iload 5, 2) := by decide +kernel
theorem dX1_readsUntilChange_93 : decode cX1_readsUntilChange 93 = .ok (.ireturn, 1) := by decide +kernel
theorem dX1_readsUntilChange_94 : decode cX1_readsUntilChange 94 = .ok (.iinc 5 1, 3) := by decide +kernel
theorem dX1_readsUntilChange_97 : decode cX1_readsUntilChange 97 = .ok (.goto (-34), 3) := by decide +kernel
theorem dX1_readsUntilChange_100 : decode cX1_readsUntilChange 100 = .ok (.bipush (-5), 2) := by decide +kernel
theorem dX1_readsUntilChange_102 : decode cX1_readsUntilChange 102 = .ok (.ireturn, 1) := by decide +kernel
set_option maxRecDepth 20000 in
theorem ggX1_addressOfRank_X1_hasRank : GoodIn wsX1_addressOfRank wsX1_hasRank := goodIn_r _ [5, 6, 7, 8, 4, 9, 10, 11, 12, 13, 14, 15, 16, 17, 18, 19, 20, 21, 22, 28, 29, 30, 31, 32, 33, 34, 35, 36, 37, 38, 39, 40, 41, 42] (by decide +kernel) (by decide +kernel)
set_option maxRecDepth 20000 in
theorem gX1_addressOfRank_X1_hasRank : GoodIn wsX1_addressOfRank (wsV RX1 171 RX1 yX1_hasRank wsX1_hasRank) := goodIn_app (goodIn_of _ (by decide +kernel)) ggX1_addressOfRank_X1_hasRank
set_option maxRecDepth 20000 in
theorem ggX1_addressOfRank_X1_rankOf : GoodIn wsX1_addressOfRank wsX1_rankOf := goodIn_r _ [26, 27, 22, 1, 2, 3, 4, 5, 6, 7, 8, 9, 10, 11, 12, 13, 14, 15, 16, 17, 18, 19, 20, 21, 28, 29, 30, 31, 32, 33, 34, 35, 36, 37, 38, 39, 40, 41, 42] (by decide +kernel) (by decide +kernel)
set_option maxRecDepth 20000 in
theorem gX1_addressOfRank_X1_rankOf : GoodIn wsX1_addressOfRank (wsV RX1 174 RX1 yX1_rankOf wsX1_rankOf) := goodIn_app (goodIn_of _ (by decide +kernel)) ggX1_addressOfRank_X1_rankOf
theorem dX1_addressOfRank_0 : decode cX1_addressOfRank 0 = .ok (.iconst 0, 1) := by decide +kernel
theorem dX1_addressOfRank_1 : decode cX1_addressOfRank 1 = .ok (.istore_n 2, 1) := by decide +kernel
theorem dX1_addressOfRank_2 : decode cX1_addressOfRank 2 = .ok (.iload_n 2, 1) := by decide +kernel
theorem dX1_addressOfRank_3 : decode cX1_addressOfRank 3 = .ok (.bipush 64, 2) := by decide +kernel
theorem dX1_addressOfRank_5 : decode cX1_addressOfRank 5 = .ok (.if_icmp .ge 28, 3) := by decide +kernel
theorem dX1_addressOfRank_8 : decode cX1_addressOfRank 8 = .ok (.aload_n 0, 1) := by decide +kernel
theorem dX1_addressOfRank_9 : decode cX1_addressOfRank 9 = .ok (.iload_n 2, 1) := by decide +kernel
theorem dX1_addressOfRank_10 : decode cX1_addressOfRank 10 = .ok (.invokevirtual 171, 3) := by decide +kernel
theorem dX1_addressOfRank_13 : decode cX1_addressOfRank 13 = .ok (.ifCond .eq 14, 3) := by decide +kernel
theorem dX1_addressOfRank_16 : decode cX1_addressOfRank 16 = .ok (.aload_n 0, 1) := by decide +kernel
theorem dX1_addressOfRank_17 : decode cX1_addressOfRank 17 = .ok (.iload_n 2, 1) := by decide +kernel
theorem dX1_addressOfRank_18 : decode cX1_addressOfRank 18 = .ok (.invokevirtual 174, 3) := by decide +kernel
theorem dX1_addressOfRank_21 : decode cX1_addressOfRank 21 = .ok (.iload_n 1, 1) := by decide +kernel
theorem dX1_addressOfRank_22 : decode cX1_addressOfRank 22 = .ok (.if_icmp .ne 5, 3) := by decide +kernel
theorem dX1_addressOfRank_25 : decode cX1_addressOfRank 25 = .ok (.iload_n 2, 1) := by decide +kernel
theorem dX1_addressOfRank_26 : decode cX1_addressOfRank 26 = .ok (.ireturn, 1) := by decide +kernel
theorem dX1_addressOfRank_27 : decode cX1_addressOfRank 27 = .ok (.iinc 2 1, 3) := by decide +kernel
theorem dX1_addressOfRank_30 : decode cX1_addressOfRank 30 = .ok (.goto (-28), 3) := by decide +kernel
theorem dX1_addressOfRank_33 : decode cX1_addressOfRank 33 = .ok (.bipush (-5), 2) := by decide +kernel
theorem dX1_addressOfRank_35 : decode cX1_addressOfRank 35 = .ok (.ireturn, 1) := by decide +kernel
set_option maxRecDepth 20000 in
theorem ggX1_hasRank_X1_isAddress : GoodIn wsX1_hasRank wsX1_isAddress := goodIn_r _ [5, 6, 7, 8, 9, 10, 11, 12, 13, 19, 20, 21, 22, 23, 24, 25, 26, 27, 28, 29, 30, 31, 32, 33] (by decide +kernel) (by decide +kernel)
set_option maxRecDepth 20000 in
theorem gX1_hasRank_X1_isAddress : GoodIn wsX1_hasRank (wsV RX1 69 RX1 yX1_isAddress wsX1_isAddress) := goodIn_app (goodIn_of _ (by decide +kernel)) ggX1_hasRank_X1_isAddress
set_option maxRecDepth 20000 in
theorem ggX1_hasRank_X1_isLost : GoodIn wsX1_hasRank wsX1_isLost := goodIn_r _ [17, 18, 19, 20, 21, 22, 23, 24, 25, 26, 27, 28, 29, 30, 31, 32, 33] (by decide +kernel) (by decide +kernel)
set_option maxRecDepth 20000 in
theorem gX1_hasRank_X1_isLost : GoodIn wsX1_hasRank (wsV RX1 83 RX1 yX1_isLost wsX1_isLost) := goodIn_app (goodIn_of _ (by decide +kernel)) ggX1_hasRank_X1_isLost
theorem dX1_hasRank_0 : decode cX1_hasRank 0 = .ok (.aload_n 0, 1) := by decide +kernel
theorem dX1_hasRank_1 : decode cX1_hasRank 1 = .ok (.iload_n 1, 1) := by decide +kernel
theorem dX1_hasRank_2 : decode cX1_hasRank 2 = .ok (.invokevirtual 69, 3) := by decide +kernel
theorem dX1_hasRank_5 : decode cX1_hasRank 5 = .ok (.ifCond .eq 15, 3) := by decide +kernel
theorem dX1_hasRank_8 : decode cX1_hasRank 8 = .ok (.aload_n 0, 1) := by decide +kernel
theorem dX1_hasRank_9 : decode cX1_hasRank 9 = .ok (.iload_n 1, 1) := by decide +kernel
theorem dX1_hasRank_10 : decode cX1_hasRank 10 = .ok (.invokevirtual 83, 3) := by decide +kernel
theorem dX1_hasRank_13 : decode cX1_hasRank 13 = .ok (.ifCond .ne 7, 3) := by decide +kernel
theorem dX1_hasRank_16 : decode cX1_hasRank 16 = .ok (.iconst 1, 1) := by decide +kernel
theorem dX1_hasRank_17 : decode cX1_hasRank 17 = .ok (.goto 4, 3) := by decide +kernel
theorem dX1_hasRank_20 : decode cX1_hasRank 20 = .ok (.iconst 0, 1) := by decide +kernel
theorem dX1_hasRank_21 : decode cX1_hasRank 21 = .ok (.ireturn, 1) := by decide +kernel
set_option maxRecDepth 20000 in
theorem ggX1_rankOf_X1_hasRank : GoodIn wsX1_rankOf wsX1_hasRank := goodIn_r _ [7, 8, 9, 10, 6, 11, 12, 13, 14, 15, 16, 17, 18, 19, 20, 21, 22, 23, 2, 24, 25, 26, 27, 28, 29, 30, 31, 32, 33, 34, 35, 36, 37, 38] (by decide +kernel) (by decide +kernel)
set_option maxRecDepth 20000 in
theorem gX1_rankOf_X1_hasRank : GoodIn wsX1_rankOf (wsV RX1 171 RX1 yX1_hasRank wsX1_hasRank) := goodIn_app (goodIn_of _ (by decide +kernel)) ggX1_rankOf_X1_hasRank
theorem dX1_rankOf_0 : decode cX1_rankOf 0 = .ok (.aload_n 0, 1) := by decide +kernel
theorem dX1_rankOf_1 : decode cX1_rankOf 1 = .ok (.getfield 26, 3) := by decide +kernel
theorem dX1_rankOf_4 : decode cX1_rankOf 4 = .ok (.aload_n 0, 1) := by decide +kernel
theorem dX1_rankOf_5 : decode cX1_rankOf 5 = .ok (.getfield 35, 3) := by decide +kernel
theorem dX1_rankOf_8 : decode cX1_rankOf 8 = .ok (.iload_n 1, 1) := by decide +kernel
theorem dX1_rankOf_9 : decode cX1_rankOf 9 = .ok (.iaload, 1) := by decide +kernel
theorem dX1_rankOf_10 : decode cX1_rankOf 10 = .ok (.iaload, 1) := by decide +kernel
theorem dX1_rankOf_11 : decode cX1_rankOf 11 = .ok (.istore_n 2, 1) := by decide +kernel
theorem dX1_rankOf_12 : decode cX1_rankOf 12 = .ok (.iconst 0, 1) := by decide +kernel
theorem dX1_rankOf_13 : decode cX1_rankOf 13 = .ok (.istore_n 3, 1) := by decide +kernel
theorem dX1_rankOf_14 : decode cX1_rankOf 14 = .ok (.iconst 0, 1) := by decide +kernel
theorem dX1_rankOf_15 : decode cX1_rankOf 15 = .ok (.istore 4, 2) := by decide +kernel
theorem dX1_rankOf_17 : decode cX1_rankOf 17 = .ok (.iload 4, 2) := by decide +kernel
theorem dX1_rankOf_19 : decode cX1_rankOf 19 = .ok (.bipush 64, 2) := by decide +kernel
theorem dX1_rankOf_21 : decode cX1_rankOf 21 = .ok (.if_icmp .ge 53, 3) := by decide +kernel
theorem dX1_rankOf_24 : decode cX1_rankOf 24 = .ok (.aload_n 0, 1) := by decide +kernel
theorem dX1_rankOf_25 : decode cX1_rankOf 25 = .ok (.iload 4, 2) := by decide +kernel
theorem dX1_rankOf_27 : decode cX1_rankOf 27 = .ok (.invokevirtual 171, 3) := by decide +kernel
theorem dX1_rankOf_30 : decode cX1_rankOf 30 = .ok (.ifCond .eq 38, 3) := by decide +kernel
theorem dX1_rankOf_33 : decode cX1_rankOf 33 = .ok (.aload_n 0, 1) := by decide +kernel
theorem dX1_rankOf_34 : decode cX1_rankOf 34 = .ok (.getfield 26, 3) := by decide +kernel
theorem dX1_rankOf_37 : decode cX1_rankOf 37 = .ok (.aload_n 0, 1) := by decide +kernel
theorem dX1_rankOf_38 : decode cX1_rankOf 38 = .ok (.getfield 35, 3) := by decide +kernel
theorem dX1_rankOf_41 : decode cX1_rankOf 41 = .ok (.iload 4, 2) := by decide +kernel
theorem dX1_rankOf_43 : decode cX1_rankOf 43 = .ok (.iaload, 1) := by decide +kernel
theorem dX1_rankOf_44 : decode cX1_rankOf 44 = .ok (.iaload, 1) := by decide +kernel
theorem dX1_rankOf_45 : decode cX1_rankOf 45 = .ok (.istore 5, 2) := by decide +kernel
theorem dX1_rankOf_47 : decode cX1_rankOf 47 = .ok (.iload 5, 2) := by decide +kernel
theorem dX1_rankOf_49 : decode cX1_rankOf 49 = .ok (.iload_n 2, 1) := by decide +kernel
theorem dX1_rankOf_50 : decode cX1_rankOf 50 = .ok (.if_icmp .gt 15, 3) := by decide +kernel
theorem dX1_rankOf_53 : decode cX1_rankOf 53 = .ok (.iload 5, 2) := by decide +kernel
theorem dX1_rankOf_55 : decode cX1_rankOf 55 = .ok (.iload_n 2, 1) := by decide +kernel
theorem dX1_rankOf_56 : decode cX1_rankOf 56 = .ok (.if_icmp .ne 12, 3) := by decide +kernel
theorem dX1_rankOf_59 : decode cX1_rankOf 59 = .ok (.iload 4, 2) := by decide +kernel
theorem dX1_rankOf_61 : decode cX1_rankOf 61 = .ok (.iload_n 1, 1) := by decide +kernel
theorem dX1_rankOf_62 : decode cX1_rankOf 62 = .ok (.if_icmp .ge 6, 3) := by decide +kernel
theorem dX1_rankOf_65 : decode cX1_rankOf 65 = .ok (.iinc 3 1, 3) := by decide +kernel
theorem dX1_rankOf_68 : decode cX1_rankOf 68 = .ok (.iinc 4 1, 3) := by decide +kernel
theorem dX1_rankOf_71 : decode cX1_rankOf 71 = .ok (.goto (-54), 3) := by decide +kernel
theorem dX1_rankOf_74 : decode cX1_rankOf 74 = .ok (.iload_n 3, 1) := by decide +kernel
theorem dX1_rankOf_75 : decode cX1_rankOf 75 = .ok (.ireturn, 1) := by decide +kernel
set_option maxRecDepth 20000 in
theorem ggX1_leadingElsewhere_X3_headOf : GoodIn wsX1_leadingElsewhere wsX3_headOf := goodIn_r _ [3] (by decide +kernel) (by decide +kernel)
set_option maxRecDepth 20000 in
theorem gX1_leadingElsewhere_X3_headOf_n80 : GoodIn wsX1_leadingElsewhere (wsX3_headOf) := ggX1_leadingElsewhere_X3_headOf
theorem dX1_leadingElsewhere_0 : decode cX1_leadingElsewhere 0 = .ok (.iconst 0, 1) := by decide +kernel
theorem dX1_leadingElsewhere_1 : decode cX1_leadingElsewhere 1 = .ok (.istore_n 3, 1) := by decide +kernel
theorem dX1_leadingElsewhere_2 : decode cX1_leadingElsewhere 2 = .ok (.iconst 0, 1) := by decide +kernel
theorem dX1_leadingElsewhere_3 : decode cX1_leadingElsewhere 3 = .ok (.istore 4, 2) := by decide +kernel
theorem dX1_leadingElsewhere_5 : decode cX1_leadingElsewhere 5 = .ok (.iload 4, 2) := by decide +kernel
theorem dX1_leadingElsewhere_7 : decode cX1_leadingElsewhere 7 = .ok (.bipush 16, 2) := by decide +kernel
theorem dX1_leadingElsewhere_9 : decode cX1_leadingElsewhere 9 = .ok (.if_icmp .ge 39, 3) := by decide +kernel
theorem dX1_leadingElsewhere_12 : decode cX1_leadingElsewhere 12 = .ok (.aload_n 1, 1) := by decide +kernel
theorem dX1_leadingElsewhere_13 : decode cX1_leadingElsewhere 13 = .ok (.iload_n 2, 1) := by decide +kernel
theorem dX1_leadingElsewhere_14 : decode cX1_leadingElsewhere 14 = .ok (.bipush 16, 2) := by decide +kernel
theorem dX1_leadingElsewhere_16 : decode cX1_leadingElsewhere 16 = .ok (.imul, 1) := by decide +kernel
theorem dX1_leadingElsewhere_17 : decode cX1_leadingElsewhere 17 = .ok (.iload 4, 2) := by decide +kernel
theorem dX1_leadingElsewhere_19 : decode cX1_leadingElsewhere 19 = .ok (.iadd, 1) := by decide +kernel
theorem dX1_leadingElsewhere_20 : decode cX1_leadingElsewhere 20 = .ok (.iaload, 1) := by decide +kernel
theorem dX1_leadingElsewhere_21 : decode cX1_leadingElsewhere 21 = .ok (.istore 5, 2) := by decide +kernel
theorem dX1_leadingElsewhere_23 : decode cX1_leadingElsewhere 23 = .ok (.iload 5, 2) := by decide +kernel
theorem dX1_leadingElsewhere_25 : decode cX1_leadingElsewhere 25 = .ok (.bipush (-5), 2) := by decide +kernel
theorem dX1_leadingElsewhere_27 : decode cX1_leadingElsewhere 27 = .ok (.if_icmp .eq 15, 3) := by decide +kernel
theorem dX1_leadingElsewhere_30 : decode cX1_leadingElsewhere 30 = .ok (.iload 5, 2) := by decide +kernel
theorem dX1_leadingElsewhere_32 : decode cX1_leadingElsewhere 32 = .ok (.invokestatic 80, 3) := by decide +kernel
theorem dX1_leadingElsewhere_35 : decode cX1_leadingElsewhere 35 = .ok (.iload_n 2, 1) := by decide +kernel
theorem dX1_leadingElsewhere_36 : decode cX1_leadingElsewhere 36 = .ok (.if_icmp .eq 6, 3) := by decide +kernel
theorem dX1_leadingElsewhere_39 : decode cX1_leadingElsewhere 39 = .ok (.iinc 3 1, 3) := by decide +kernel
theorem dX1_leadingElsewhere_42 : decode cX1_leadingElsewhere 42 = .ok (.iinc 4 1, 3) := by decide +kernel
theorem dX1_leadingElsewhere_45 : decode cX1_leadingElsewhere 45 = .ok (.goto (-40), 3) := by decide +kernel
theorem dX1_leadingElsewhere_48 : decode cX1_leadingElsewhere 48 = .ok (.iload_n 3, 1) := by decide +kernel
theorem dX1_leadingElsewhere_49 : decode cX1_leadingElsewhere 49 = .ok (.ireturn, 1) := by decide +kernel
set_option maxRecDepth 20000 in
theorem ggX1_lostOf_X1_isLost : GoodIn wsX1_lostOf wsX1_isLost := goodIn_r _ [6, 7, 8, 9, 10, 11, 12, 13, 14, 15, 16, 17, 18, 19, 20, 21, 22] (by decide +kernel) (by decide +kernel)
set_option maxRecDepth 20000 in
theorem gX1_lostOf_X1_isLost : GoodIn wsX1_lostOf (wsV RX1 83 RX1 yX1_isLost wsX1_isLost) := goodIn_app (goodIn_of _ (by decide +kernel)) ggX1_lostOf_X1_isLost
theorem dX1_lostOf_0 : decode cX1_lostOf 0 = .ok (.iconst 0, 1) := by decide +kernel
theorem dX1_lostOf_1 : decode cX1_lostOf 1 = .ok (.istore_n 2, 1) := by decide +kernel
theorem dX1_lostOf_2 : decode cX1_lostOf 2 = .ok (.iconst 0, 1) := by decide +kernel
theorem dX1_lostOf_3 : decode cX1_lostOf 3 = .ok (.istore_n 3, 1) := by decide +kernel
theorem dX1_lostOf_4 : decode cX1_lostOf 4 = .ok (.iload_n 3, 1) := by decide +kernel
theorem dX1_lostOf_5 : decode cX1_lostOf 5 = .ok (.bipush 16, 2) := by decide +kernel
theorem dX1_lostOf_7 : decode cX1_lostOf 7 = .ok (.aload_n 0, 1) := by decide +kernel
theorem dX1_lostOf_8 : decode cX1_lostOf 8 = .ok (.getfield 19, 3) := by decide +kernel
theorem dX1_lostOf_11 : decode cX1_lostOf 11 = .ok (.iload_n 1, 1) := by decide +kernel
theorem dX1_lostOf_12 : decode cX1_lostOf 12 = .ok (.iaload, 1) := by decide +kernel
theorem dX1_lostOf_13 : decode cX1_lostOf 13 = .ok (.isub, 1) := by decide +kernel
theorem dX1_lostOf_14 : decode cX1_lostOf 14 = .ok (.if_icmp .ge 25, 3) := by decide +kernel
theorem dX1_lostOf_17 : decode cX1_lostOf 17 = .ok (.aload_n 0, 1) := by decide +kernel
theorem dX1_lostOf_18 : decode cX1_lostOf 18 = .ok (.iload_n 1, 1) := by decide +kernel
theorem dX1_lostOf_19 : decode cX1_lostOf 19 = .ok (.bipush 16, 2) := by decide +kernel
theorem dX1_lostOf_21 : decode cX1_lostOf 21 = .ok (.imul, 1) := by decide +kernel
theorem dX1_lostOf_22 : decode cX1_lostOf 22 = .ok (.iload_n 3, 1) := by decide +kernel
theorem dX1_lostOf_23 : decode cX1_lostOf 23 = .ok (.iadd, 1) := by decide +kernel
theorem dX1_lostOf_24 : decode cX1_lostOf 24 = .ok (.invokevirtual 83, 3) := by decide +kernel
theorem dX1_lostOf_27 : decode cX1_lostOf 27 = .ok (.ifCond .eq 6, 3) := by decide +kernel
theorem dX1_lostOf_30 : decode cX1_lostOf 30 = .ok (.iinc 2 1, 3) := by decide +kernel
theorem dX1_lostOf_33 : decode cX1_lostOf 33 = .ok (.iinc 3 1, 3) := by decide +kernel
theorem dX1_lostOf_36 : decode cX1_lostOf 36 = .ok (.goto (-32), 3) := by decide +kernel
theorem dX1_lostOf_39 : decode cX1_lostOf 39 = .ok (.iload_n 2, 1) := by decide +kernel
theorem dX1_lostOf_40 : decode cX1_lostOf 40 = .ok (.ireturn, 1) := by decide +kernel
theorem dX1_wearOf_0 : decode cX1_wearOf 0 = .ok (.iconst 0, 1) := by decide +kernel
theorem dX1_wearOf_1 : decode cX1_wearOf 1 = .ok (.istore_n 2, 1) := by decide +kernel
theorem dX1_wearOf_2 : decode cX1_wearOf 2 = .ok (.iconst 0, 1) := by decide +kernel
theorem dX1_wearOf_3 : decode cX1_wearOf 3 = .ok (.istore_n 3, 1) := by decide +kernel
theorem dX1_wearOf_4 : decode cX1_wearOf 4 = .ok (.iload_n 3, 1) := by decide +kernel
theorem dX1_wearOf_5 : decode cX1_wearOf 5 = .ok (.bipush 16, 2) := by decide +kernel
theorem dX1_wearOf_7 : decode cX1_wearOf 7 = .ok (.if_icmp .ge 23, 3) := by decide +kernel
theorem dX1_wearOf_10 : decode cX1_wearOf 10 = .ok (.iload_n 2, 1) := by decide +kernel
theorem dX1_wearOf_11 : decode cX1_wearOf 11 = .ok (.aload_n 0, 1) := by decide +kernel
theorem dX1_wearOf_12 : decode cX1_wearOf 12 = .ok (.getfield 26, 3) := by decide +kernel
theorem dX1_wearOf_15 : decode cX1_wearOf 15 = .ok (.iload_n 1, 1) := by decide +kernel
theorem dX1_wearOf_16 : decode cX1_wearOf 16 = .ok (.bipush 16, 2) := by decide +kernel
theorem dX1_wearOf_18 : decode cX1_wearOf 18 = .ok (.imul, 1) := by decide +kernel
theorem dX1_wearOf_19 : decode cX1_wearOf 19 = .ok (.iload_n 3, 1) := by decide +kernel
theorem dX1_wearOf_20 : decode cX1_wearOf 20 = .ok (.iadd, 1) := by decide +kernel
theorem dX1_wearOf_21 : decode cX1_wearOf 21 = .ok (.iaload, 1) := by decide +kernel
theorem dX1_wearOf_22 : decode cX1_wearOf 22 = .ok (.iadd, 1) := by decide +kernel
theorem dX1_wearOf_23 : decode cX1_wearOf 23 = .ok (.istore_n 2, 1) := by decide +kernel
theorem dX1_wearOf_24 : decode cX1_wearOf 24 = .ok (.iinc 3 1, 3) := by decide +kernel
theorem dX1_wearOf_27 : decode cX1_wearOf 27 = .ok (.goto (-23), 3) := by decide +kernel
theorem dX1_wearOf_30 : decode cX1_wearOf 30 = .ok (.iload_n 2, 1) := by decide +kernel
theorem dX1_wearOf_31 : decode cX1_wearOf 31 = .ok (.ireturn, 1) := by decide +kernel
set_option maxRecDepth 20000 in
theorem ggX1_gradedOf_X1_gradeOf : GoodIn wsX1_gradedOf wsX1_gradeOf := goodIn_r _ [5, 6, 7, 8, 4, 9, 10, 11, 12, 13, 14, 15, 16, 17, 18, 19, 20, 21, 22, 23, 24, 25, 26, 27, 28, 29, 30] (by decide +kernel) (by decide +kernel)
set_option maxRecDepth 20000 in
theorem gX1_gradedOf_X1_gradeOf : GoodIn wsX1_gradedOf (wsV RX1 154 RX1 yX1_gradeOf wsX1_gradeOf) := goodIn_app (goodIn_of _ (by decide +kernel)) ggX1_gradedOf_X1_gradeOf
theorem dX1_gradedOf_0 : decode cX1_gradedOf 0 = .ok (.iconst 0, 1) := by decide +kernel
theorem dX1_gradedOf_1 : decode cX1_gradedOf 1 = .ok (.istore_n 3, 1) := by decide +kernel
theorem dX1_gradedOf_2 : decode cX1_gradedOf 2 = .ok (.iconst 0, 1) := by decide +kernel
theorem dX1_gradedOf_3 : decode cX1_gradedOf 3 = .ok (.istore 4, 2) := by decide +kernel
theorem dX1_gradedOf_5 : decode cX1_gradedOf 5 = .ok (.iload 4, 2) := by decide +kernel
theorem dX1_gradedOf_7 : decode cX1_gradedOf 7 = .ok (.bipush 16, 2) := by decide +kernel
theorem dX1_gradedOf_9 : decode cX1_gradedOf 9 = .ok (.if_icmp .ge 27, 3) := by decide +kernel
theorem dX1_gradedOf_12 : decode cX1_gradedOf 12 = .ok (.aload_n 0, 1) := by decide +kernel
theorem dX1_gradedOf_13 : decode cX1_gradedOf 13 = .ok (.iload_n 1, 1) := by decide +kernel
theorem dX1_gradedOf_14 : decode cX1_gradedOf 14 = .ok (.bipush 16, 2) := by decide +kernel
theorem dX1_gradedOf_16 : decode cX1_gradedOf 16 = .ok (.imul, 1) := by decide +kernel
theorem dX1_gradedOf_17 : decode cX1_gradedOf 17 = .ok (.iload 4, 2) := by decide +kernel
theorem dX1_gradedOf_19 : decode cX1_gradedOf 19 = .ok (.iadd, 1) := by decide +kernel
theorem dX1_gradedOf_20 : decode cX1_gradedOf 20 = .ok (.invokevirtual 154, 3) := by decide +kernel
theorem dX1_gradedOf_23 : decode cX1_gradedOf 23 = .ok (.iload_n 2, 1) := by decide +kernel
theorem dX1_gradedOf_24 : decode cX1_gradedOf 24 = .ok (.if_icmp .ne 6, 3) := by decide +kernel
theorem dX1_gradedOf_27 : decode cX1_gradedOf 27 = .ok (.iinc 3 1, 3) := by decide +kernel
theorem dX1_gradedOf_30 : decode cX1_gradedOf 30 = .ok (.iinc 4 1, 3) := by decide +kernel
theorem dX1_gradedOf_33 : decode cX1_gradedOf 33 = .ok (.goto (-28), 3) := by decide +kernel
theorem dX1_gradedOf_36 : decode cX1_gradedOf 36 = .ok (.iload_n 3, 1) := by decide +kernel
theorem dX1_gradedOf_37 : decode cX1_gradedOf 37 = .ok (.ireturn, 1) := by decide +kernel
set_option maxRecDepth 20000 in
theorem ggX1_overHeads_X1_tellHead : GoodIn wsX1_overHeads wsX1_tellHead := goodIn_r _ [5, 6, 7, 8, 9, 10, 11, 12, 13, 4, 14, 15, 16, 17, 18, 19, 20, 21, 22, 23, 24, 25, 26, 27, 28, 29, 30, 31, 32, 33, 34, 35, 36, 37, 38, 39, 40, 41, 42, 43, 44, 45, 46, 47, 48, 49, 50, 51, 52, 53, 54, 55, 56, 57, 58, 59, 60, 61, 62, 63, 64, 65, 66, 67, 68, 69, 70, 71, 72] (by decide +kernel) (by decide +kernel)
set_option maxRecDepth 20000 in
theorem gX1_overHeads_X1_tellHead : GoodIn wsX1_overHeads (wsV RX1 177 RX1 yX1_tellHead wsX1_tellHead) := goodIn_app (goodIn_of _ (by decide +kernel)) ggX1_overHeads_X1_tellHead
theorem dX1_overHeads_0 : decode cX1_overHeads 0 = .ok (.iconst 0, 1) := by decide +kernel
theorem dX1_overHeads_1 : decode cX1_overHeads 1 = .ok (.istore_n 2, 1) := by decide +kernel
theorem dX1_overHeads_2 : decode cX1_overHeads 2 = .ok (.iconst 0, 1) := by decide +kernel
theorem dX1_overHeads_3 : decode cX1_overHeads 3 = .ok (.istore_n 3, 1) := by decide +kernel
theorem dX1_overHeads_4 : decode cX1_overHeads 4 = .ok (.iload_n 3, 1) := by decide +kernel
theorem dX1_overHeads_5 : decode cX1_overHeads 5 = .ok (.iconst 4, 1) := by decide +kernel
theorem dX1_overHeads_6 : decode cX1_overHeads 6 = .ok (.if_icmp .ge 18, 3) := by decide +kernel
theorem dX1_overHeads_9 : decode cX1_overHeads 9 = .ok (.iload_n 2, 1) := by decide +kernel
theorem dX1_overHeads_10 : decode cX1_overHeads 10 = .ok (.aload_n 0, 1) := by decide +kernel
theorem dX1_overHeads_11 : decode cX1_overHeads 11 = .ok (.iload_n 3, 1) := by decide +kernel
theorem dX1_overHeads_12 : decode cX1_overHeads 12 = .ok (.iload_n 1, 1) := by decide +kernel
theorem dX1_overHeads_13 : decode cX1_overHeads 13 = .ok (.invokevirtual 177, 3) := by decide +kernel
theorem dX1_overHeads_16 : decode cX1_overHeads 16 = .ok (.iadd, 1) := by decide +kernel
theorem dX1_overHeads_17 : decode cX1_overHeads 17 = .ok (.istore_n 2, 1) := by decide +kernel
theorem dX1_overHeads_18 : decode cX1_overHeads 18 = .ok (.iinc 3 1, 3) := by decide +kernel
theorem dX1_overHeads_21 : decode cX1_overHeads 21 = .ok (.goto (-17), 3) := by decide +kernel
theorem dX1_overHeads_24 : decode cX1_overHeads 24 = .ok (.iload_n 2, 1) := by decide +kernel
theorem dX1_overHeads_25 : decode cX1_overHeads 25 = .ok (.ireturn, 1) := by decide +kernel
set_option maxRecDepth 20000 in
theorem ggX1_longWayCount_X1_isAddress : GoodIn wsX1_longWayCount wsX1_isAddress := goodIn_r _ [5, 6, 7, 8, 9, 10, 11, 12, 13, 23, 24, 25, 26, 27, 28, 29, 30, 31, 32, 33, 34, 35, 36, 37] (by decide +kernel) (by decide +kernel)
set_option maxRecDepth 20000 in
theorem gX1_longWayCount_X1_isAddress : GoodIn wsX1_longWayCount (wsV RX1 69 RX1 yX1_isAddress wsX1_isAddress) := goodIn_app (goodIn_of _ (by decide +kernel)) ggX1_longWayCount_X1_isAddress
set_option maxRecDepth 20000 in
theorem ggX1_longWayCount_X1_isLongWay : GoodIn wsX1_longWayCount wsX1_isLongWay := goodIn_r _ [17, 18, 19, 20, 21, 4, 22, 23, 24, 25, 26, 27, 28, 29, 30, 31, 32, 33, 34, 35, 36, 37] (by decide +kernel) (by decide +kernel)
set_option maxRecDepth 20000 in
theorem gX1_longWayCount_X1_isLongWay : GoodIn wsX1_longWayCount (wsV RX1 148 RX1 yX1_isLongWay wsX1_isLongWay) := goodIn_app (goodIn_of _ (by decide +kernel)) ggX1_longWayCount_X1_isLongWay
theorem dX1_longWayCount_0 : decode cX1_longWayCount 0 = .ok (.iconst 0, 1) := by decide +kernel
theorem dX1_longWayCount_1 : decode cX1_longWayCount 1 = .ok (.istore_n 1, 1) := by decide +kernel
theorem dX1_longWayCount_2 : decode cX1_longWayCount 2 = .ok (.iconst 0, 1) := by decide +kernel
theorem dX1_longWayCount_3 : decode cX1_longWayCount 3 = .ok (.istore_n 2, 1) := by decide +kernel
theorem dX1_longWayCount_4 : decode cX1_longWayCount 4 = .ok (.iload_n 2, 1) := by decide +kernel
theorem dX1_longWayCount_5 : decode cX1_longWayCount 5 = .ok (.bipush 64, 2) := by decide +kernel
theorem dX1_longWayCount_7 : decode cX1_longWayCount 7 = .ok (.if_icmp .ge 28, 3) := by decide +kernel
theorem dX1_longWayCount_10 : decode cX1_longWayCount 10 = .ok (.aload_n 0, 1) := by decide +kernel
theorem dX1_longWayCount_11 : decode cX1_longWayCount 11 = .ok (.iload_n 2, 1) := by decide +kernel
theorem dX1_longWayCount_12 : decode cX1_longWayCount 12 = .ok (.invokevirtual 69, 3) := by decide +kernel
theorem dX1_longWayCount_15 : decode cX1_longWayCount 15 = .ok (.ifCond .eq 14, 3) := by decide +kernel
theorem dX1_longWayCount_18 : decode cX1_longWayCount 18 = .ok (.aload_n 0, 1) := by decide +kernel
theorem dX1_longWayCount_19 : decode cX1_longWayCount 19 = .ok (.iload_n 2, 1) := by decide +kernel
theorem dX1_longWayCount_20 : decode cX1_longWayCount 20 = .ok (.invokevirtual 148, 3) := by decide +kernel
theorem dX1_longWayCount_23 : decode cX1_longWayCount 23 = .ok (.ifCond .eq 6, 3) := by decide +kernel
theorem dX1_longWayCount_26 : decode cX1_longWayCount 26 = .ok (.iinc 1 1, 3) := by decide +kernel
theorem dX1_longWayCount_29 : decode cX1_longWayCount 29 = .ok (.iinc 2 1, 3) := by decide +kernel
theorem dX1_longWayCount_32 : decode cX1_longWayCount 32 = .ok (.goto (-28), 3) := by decide +kernel
theorem dX1_longWayCount_35 : decode cX1_longWayCount 35 = .ok (.iload_n 1, 1) := by decide +kernel
theorem dX1_longWayCount_36 : decode cX1_longWayCount 36 = .ok (.ireturn, 1) := by decide +kernel
set_option maxRecDepth 20000 in
theorem ggX2_init_X1_init : GoodIn wsX2_init wsX1_init := goodIn_r _ [12, 13, 2, 3, 14, 15, 16, 17, 18, 19, 20, 21, 22, 23, 24, 25, 26, 27, 28, 29, 30, 31, 32, 33, 9, 34, 35, 36, 37, 38, 39, 40, 41, 42, 43, 44, 45, 49, 50, 51, 52, 53, 54, 55, 56, 57, 58, 59, 60, 61, 62, 63] (by decide +kernel) (by decide +kernel)
set_option maxRecDepth 20000 in
theorem gX2_init_X1_init : GoodIn wsX2_init (wsX1_init) := ggX2_init_X1_init
theorem dX2_init_0 : decode cX2_init 0 = .ok (.aload_n 0, 1) := by decide +kernel
theorem dX2_init_1 : decode cX2_init 1 = .ok (.invokespecial 3, 3) := by decide +kernel
theorem dX2_init_4 : decode cX2_init 4 = .ok (.aload_n 0, 1) := by decide +kernel
theorem dX2_init_5 : decode cX2_init 5 = .ok (.iconst 4, 1) := by decide +kernel
theorem dX2_init_6 : decode cX2_init 6 = .ok (.anewarray 9, 3) := by decide +kernel
theorem dX2_init_9 : decode cX2_init 9 = .ok (.putfield 11, 3) := by decide +kernel
theorem dX2_init_12 : decode cX2_init 12 = .ok (.aload_n 0, 1) := by decide +kernel
theorem dX2_init_13 : decode cX2_init 13 = .ok (.iconst 0, 1) := by decide +kernel
theorem dX2_init_14 : decode cX2_init 14 = .ok (.putfield 17, 3) := by decide +kernel
theorem dX2_init_17 : decode cX2_init 17 = .ok (.aload_n 0, 1) := by decide +kernel
theorem dX2_init_18 : decode cX2_init 18 = .ok (.iconst 0, 1) := by decide +kernel
theorem dX2_init_19 : decode cX2_init 19 = .ok (.putfield 21, 3) := by decide +kernel
theorem dX2_init_22 : decode cX2_init 22 = .ok (.iconst 0, 1) := by decide +kernel
theorem dX2_init_23 : decode cX2_init 23 = .ok (.istore_n 1, 1) := by decide +kernel
theorem dX2_init_24 : decode cX2_init 24 = .ok (.iload_n 1, 1) := by decide +kernel
theorem dX2_init_25 : decode cX2_init 25 = .ok (.iconst 4, 1) := by decide +kernel
theorem dX2_init_26 : decode cX2_init 26 = .ok (.if_icmp .ge 22, 3) := by decide +kernel
theorem dX2_init_29 : decode cX2_init 29 = .ok (.aload_n 0, 1) := by decide +kernel
theorem dX2_init_30 : decode cX2_init 30 = .ok (.getfield 11, 3) := by decide +kernel
theorem dX2_init_33 : decode cX2_init 33 = .ok (.iload_n 1, 1) := by decide +kernel
theorem dX2_init_34 : decode cX2_init 34 = .ok (.new 9, 3) := by decide +kernel
theorem dX2_init_37 : decode cX2_init 37 = .ok (.dup, 1) := by decide +kernel
theorem dX2_init_38 : decode cX2_init 38 = .ok (.invokespecial 24, 3) := by decide +kernel
theorem dX2_init_41 : decode cX2_init 41 = .ok (.aastore, 1) := by decide +kernel
theorem dX2_init_42 : decode cX2_init 42 = .ok (.iinc 1 1, 3) := by decide +kernel
theorem dX2_init_45 : decode cX2_init 45 = .ok (.goto (-21), 3) := by decide +kernel
theorem dX2_init_48 : decode cX2_init 48 = .ok (.return_, 1) := by decide +kernel
theorem dX2_states_0 : decode cX2_states 0 = .ok (.aload_n 0, 1) := by decide +kernel
theorem dX2_states_1 : decode cX2_states 1 = .ok (.getfield 21, 3) := by decide +kernel
theorem dX2_states_4 : decode cX2_states 4 = .ok (.ireturn, 1) := by decide +kernel
set_option maxRecDepth 20000 in
theorem ggX2_record_X1_takeOver : GoodIn wsX2_record wsX1_takeOver := goodIn_r _ [8, 9, 10, 11, 12, 13, 14, 15, 16, 17, 18, 19, 20, 21, 22, 23, 24, 25, 26, 27, 31, 32, 33, 34, 35, 36, 37, 38, 39, 40, 41, 42, 43, 44, 45] (by decide +kernel) (by decide +kernel)
set_option maxRecDepth 20000 in
theorem gX2_record_X1_takeOver : GoodIn wsX2_record (wsV RX2 25 RX1 yX1_takeOver wsX1_takeOver) := goodIn_app (goodIn_of _ (by decide +kernel)) ggX2_record_X1_takeOver
theorem dX2_record_0 : decode cX2_record 0 = .ok (.aload_n 0, 1) := by decide +kernel
theorem dX2_record_1 : decode cX2_record 1 = .ok (.getfield 21, 3) := by decide +kernel
theorem dX2_record_4 : decode cX2_record 4 = .ok (.iconst 4, 1) := by decide +kernel
theorem dX2_record_5 : decode cX2_record 5 = .ok (.if_icmp .ne 25, 3) := by decide +kernel
theorem dX2_record_8 : decode cX2_record 8 = .ok (.aload_n 0, 1) := by decide +kernel
theorem dX2_record_9 : decode cX2_record 9 = .ok (.aload_n 0, 1) := by decide +kernel
theorem dX2_record_10 : decode cX2_record 10 = .ok (.getfield 17, 3) := by decide +kernel
theorem dX2_record_13 : decode cX2_record 13 = .ok (.iconst 1, 1) := by decide +kernel
theorem dX2_record_14 : decode cX2_record 14 = .ok (.iadd, 1) := by decide +kernel
theorem dX2_record_15 : decode cX2_record 15 = .ok (.iconst 4, 1) := by decide +kernel
theorem dX2_record_16 : decode cX2_record 16 = .ok (.irem, 1) := by decide +kernel
theorem dX2_record_17 : decode cX2_record 17 = .ok (.putfield 17, 3) := by decide +kernel
theorem dX2_record_20 : decode cX2_record 20 = .ok (.aload_n 0, 1) := by decide +kernel
theorem dX2_record_21 : decode cX2_record 21 = .ok (.dup, 1) := by decide +kernel
theorem dX2_record_22 : decode cX2_record 22 = .ok (.getfield 21, 3) := by decide +kernel
theorem dX2_record_25 : decode cX2_record 25 = .ok (.iconst 1, 1) := by decide +kernel
theorem dX2_record_26 : decode cX2_record 26 = .ok (.isub, 1) := by decide +kernel
theorem dX2_record_27 : decode cX2_record 27 = .ok (.putfield 21, 3) := by decide +kernel
theorem dX2_record_30 : decode cX2_record 30 = .ok (.aload_n 0, 1) := by decide +kernel
theorem dX2_record_31 : decode cX2_record 31 = .ok (.getfield 11, 3) := by decide +kernel
theorem dX2_record_34 : decode cX2_record 34 = .ok (.aload_n 0, 1) := by decide +kernel
theorem dX2_record_35 : decode cX2_record 35 = .ok (.getfield 17, 3) := by decide +kernel
theorem dX2_record_38 : decode cX2_record 38 = .ok (.aload_n 0, 1) := by decide +kernel
theorem dX2_record_39 : decode cX2_record 39 = .ok (.getfield 21, 3) := by decide +kernel
theorem dX2_record_42 : decode cX2_record 42 = .ok (.iadd, 1) := by decide +kernel
theorem dX2_record_43 : decode cX2_record 43 = .ok (.iconst 4, 1) := by decide +kernel
theorem dX2_record_44 : decode cX2_record 44 = .ok (.irem, 1) := by decide +kernel
theorem dX2_record_45 : decode cX2_record 45 = .ok (.aaload, 1) := by decide +kernel
theorem dX2_record_46 : decode cX2_record 46 = .ok (.aload_n 1, 1) := by decide +kernel
theorem dX2_record_47 : decode cX2_record 47 = .ok (.invokevirtual 25, 3) := by decide +kernel
theorem dX2_record_50 : decode cX2_record 50 = .ok (.aload_n 0, 1) := by decide +kernel
theorem dX2_record_51 : decode cX2_record 51 = .ok (.dup, 1) := by decide +kernel
theorem dX2_record_52 : decode cX2_record 52 = .ok (.getfield 21, 3) := by decide +kernel
theorem dX2_record_55 : decode cX2_record 55 = .ok (.iconst 1, 1) := by decide +kernel
theorem dX2_record_56 : decode cX2_record 56 = .ok (.iadd, 1) := by decide +kernel
theorem dX2_record_57 : decode cX2_record 57 = .ok (.putfield 21, 3) := by decide +kernel
theorem dX2_record_60 : decode cX2_record 60 = .ok (.return_, 1) := by decide +kernel
set_option maxRecDepth 20000 in
theorem ggX2_takeBack_X1_takeOver : GoodIn wsX2_takeBack wsX1_takeOver := goodIn_r _ [8, 9, 10, 11, 12, 13, 14, 15, 16, 17, 18, 19, 20, 21, 22, 23, 24, 25, 26, 27, 31, 32, 33, 34, 35, 36, 37, 38, 39, 40, 41, 42, 43, 44, 45] (by decide +kernel) (by decide +kernel)
set_option maxRecDepth 20000 in
theorem gX2_takeBack_X1_takeOver : GoodIn wsX2_takeBack (wsV RX2 25 RX1 yX1_takeOver wsX1_takeOver) := goodIn_app (goodIn_of _ (by decide +kernel)) ggX2_takeBack_X1_takeOver
theorem dX2_takeBack_0 : decode cX2_takeBack 0 = .ok (.aload_n 0, 1) := by decide +kernel
theorem dX2_takeBack_1 : decode cX2_takeBack 1 = .ok (.getfield 21, 3) := by decide +kernel
theorem dX2_takeBack_4 : decode cX2_takeBack 4 = .ok (.ifCond .le 33, 3) := by decide +kernel
theorem dX2_takeBack_7 : decode cX2_takeBack 7 = .ok (.aload_n 0, 1) := by decide +kernel
theorem dX2_takeBack_8 : decode cX2_takeBack 8 = .ok (.dup, 1) := by decide +kernel
theorem dX2_takeBack_9 : decode cX2_takeBack 9 = .ok (.getfield 21, 3) := by decide +kernel
theorem dX2_takeBack_12 : decode cX2_takeBack 12 = .ok (.iconst 1, 1) := by decide +kernel
theorem dX2_takeBack_13 : decode cX2_takeBack 13 = .ok (.isub, 1) := by decide +kernel
theorem dX2_takeBack_14 : decode cX2_takeBack 14 = .ok (.putfield 21, 3) := by decide +kernel
theorem dX2_takeBack_17 : decode cX2_takeBack 17 = .ok (.aload_n 1, 1) := by decide +kernel
theorem dX2_takeBack_18 : decode cX2_takeBack 18 = .ok (.aload_n 0, 1) := by decide +kernel
theorem dX2_takeBack_19 : decode cX2_takeBack 19 = .ok (.getfield 11, 3) := by decide +kernel
theorem dX2_takeBack_22 : decode cX2_takeBack 22 = .ok (.aload_n 0, 1) := by decide +kernel
theorem dX2_takeBack_23 : decode cX2_takeBack 23 = .ok (.getfield 17, 3) := by decide +kernel
theorem dX2_takeBack_26 : decode cX2_takeBack 26 = .ok (.aload_n 0, 1) := by decide +kernel
theorem dX2_takeBack_27 : decode cX2_takeBack 27 = .ok (.getfield 21, 3) := by decide +kernel
theorem dX2_takeBack_30 : decode cX2_takeBack 30 = .ok (.iadd, 1) := by decide +kernel
theorem dX2_takeBack_31 : decode cX2_takeBack 31 = .ok (.iconst 4, 1) := by decide +kernel
theorem dX2_takeBack_32 : decode cX2_takeBack 32 = .ok (.irem, 1) := by decide +kernel
theorem dX2_takeBack_33 : decode cX2_takeBack 33 = .ok (.aaload, 1) := by decide +kernel
theorem dX2_takeBack_34 : decode cX2_takeBack 34 = .ok (.invokevirtual 25, 3) := by decide +kernel
theorem dX2_takeBack_37 : decode cX2_takeBack 37 = .ok (.return_, 1) := by decide +kernel
set_option maxRecDepth 20000 in
theorem ggX3_init_X1_init : GoodIn wsX3_init wsX1_init := goodIn_r _ [21, 22, 2, 3, 23, 24, 25, 26, 27, 28, 29, 30, 31, 32, 33, 34, 35, 36, 37, 38, 39, 40, 41, 42, 6, 43, 44, 45, 46, 47, 48, 49, 50, 51, 52, 53, 54, 73, 74, 75, 76, 77, 78, 79, 80, 81, 82, 83, 84, 85, 86, 87] (by decide +kernel) (by decide +kernel)
set_option maxRecDepth 20000 in
theorem gX3_init_X1_init : GoodIn wsX3_init (wsX1_init) := ggX3_init_X1_init
set_option maxRecDepth 20000 in
theorem ggX3_init_X2_init : GoodIn wsX3_init wsX2_init := goodIn_r _ [57, 58, 2, 3, 59, 60, 61, 62, 5, 6, 63, 20, 21, 22, 23, 24, 25, 26, 27, 28, 29, 30, 31, 32, 33, 34, 35, 36, 37, 38, 39, 40, 41, 42, 43, 44, 45, 46, 47, 48, 49, 50, 51, 52, 53, 54, 94, 95, 96, 73, 74, 75, 76, 77, 78, 79, 80, 81, 82, 83, 84, 85, 86, 87] (by decide +kernel) (by decide +kernel)
set_option maxRecDepth 20000 in
theorem gX3_init_X2_init : GoodIn wsX3_init (wsX2_init) := ggX3_init_X2_init
set_option maxRecDepth 20000 in
theorem ggX3_init_X0_init : GoodIn wsX3_init wsX0_init := goodIn_r _ [65, 66, 2, 3, 24, 67, 68, 69, 70, 71, 72, 97, 98, 99, 100, 101, 102] (by decide +kernel) (by decide +kernel)
set_option maxRecDepth 20000 in
theorem gX3_init_X0_init_n31 : GoodIn wsX3_init (wsX0_init) := ggX3_init_X0_init
theorem dX3_init_0 : decode cX3_init 0 = .ok (.aload_n 0, 1) := by decide +kernel
theorem dX3_init_1 : decode cX3_init 1 = .ok (.invokespecial 3, 3) := by decide +kernel
theorem dX3_init_4 : decode cX3_init 4 = .ok (.aload_n 0, 1) := by decide +kernel
theorem dX3_init_5 : decode cX3_init 5 = .ok (.new 9, 3) := by decide +kernel
theorem dX3_init_8 : decode cX3_init 8 = .ok (.dup, 1) := by decide +kernel
theorem dX3_init_9 : decode cX3_init 9 = .ok (.invokespecial 11, 3) := by decide +kernel
theorem dX3_init_12 : decode cX3_init 12 = .ok (.putfield 12, 3) := by decide +kernel
theorem dX3_init_15 : decode cX3_init 15 = .ok (.aload_n 0, 1) := by decide +kernel
theorem dX3_init_16 : decode cX3_init 16 = .ok (.new 9, 3) := by decide +kernel
theorem dX3_init_19 : decode cX3_init 19 = .ok (.dup, 1) := by decide +kernel
theorem dX3_init_20 : decode cX3_init 20 = .ok (.invokespecial 11, 3) := by decide +kernel
theorem dX3_init_23 : decode cX3_init 23 = .ok (.putfield 16, 3) := by decide +kernel
theorem dX3_init_26 : decode cX3_init 26 = .ok (.aload_n 0, 1) := by decide +kernel
theorem dX3_init_27 : decode cX3_init 27 = .ok (.new 9, 3) := by decide +kernel
theorem dX3_init_30 : decode cX3_init 30 = .ok (.dup, 1) := by decide +kernel
theorem dX3_init_31 : decode cX3_init 31 = .ok (.invokespecial 11, 3) := by decide +kernel
theorem dX3_init_34 : decode cX3_init 34 = .ok (.putfield 19, 3) := by decide +kernel
theorem dX3_init_37 : decode cX3_init 37 = .ok (.aload_n 0, 1) := by decide +kernel
theorem dX3_init_38 : decode cX3_init 38 = .ok (.new 22, 3) := by decide +kernel
theorem dX3_init_41 : decode cX3_init 41 = .ok (.dup, 1) := by decide +kernel
theorem dX3_init_42 : decode cX3_init 42 = .ok (.invokespecial 24, 3) := by decide +kernel
theorem dX3_init_45 : decode cX3_init 45 = .ok (.putfield 25, 3) := by decide +kernel
theorem dX3_init_48 : decode cX3_init 48 = .ok (.aload_n 0, 1) := by decide +kernel
theorem dX3_init_49 : decode cX3_init 49 = .ok (.new 29, 3) := by decide +kernel
theorem dX3_init_52 : decode cX3_init 52 = .ok (.dup, 1) := by decide +kernel
theorem dX3_init_53 : decode cX3_init 53 = .ok (.invokespecial 31, 3) := by decide +kernel
theorem dX3_init_56 : decode cX3_init 56 = .ok (.putfield 32, 3) := by decide +kernel
theorem dX3_init_59 : decode cX3_init 59 = .ok (.aload_n 0, 1) := by decide +kernel
theorem dX3_init_60 : decode cX3_init 60 = .ok (.iconst 0, 1) := by decide +kernel
theorem dX3_init_61 : decode cX3_init 61 = .ok (.putfield 36, 3) := by decide +kernel
theorem dX3_init_64 : decode cX3_init 64 = .ok (.return_, 1) := by decide +kernel
set_option maxRecDepth 20000 in
theorem ggX3_setLimit_X3_startTrial : GoodIn wsX3_setLimit wsX3_startTrial := goodIn_r _ [6, 1, 7, 8, 9, 10, 11, 12, 13, 14, 15, 16, 17, 18, 19, 20, 21, 22, 23, 24, 25, 26, 27, 28, 29, 30, 31, 50, 51, 52, 53, 54, 55, 56, 57, 58, 59, 60, 61, 62, 63, 64, 65, 66, 67, 68, 69, 70] (by decide +kernel) (by decide +kernel)
set_option maxRecDepth 20000 in
theorem gX3_setLimit_X3_startTrial : GoodIn wsX3_setLimit (wsV RX3 40 RX3 yX3_startTrial wsX3_startTrial) := goodIn_app (goodIn_of _ (by decide +kernel)) ggX3_setLimit_X3_startTrial
set_option maxRecDepth 20000 in
theorem ggX3_setLimit_X1_changeLimit : GoodIn wsX3_setLimit wsX1_changeLimit := goodIn_r _ [35, 13, 56, 57, 58, 59, 60, 61, 62, 63, 64, 65, 66, 67, 68, 69, 70] (by decide +kernel) (by decide +kernel)
set_option maxRecDepth 20000 in
theorem gX3_setLimit_X1_changeLimit : GoodIn wsX3_setLimit (wsV RX3 43 RX1 yX1_changeLimit wsX1_changeLimit) := goodIn_app (goodIn_of _ (by decide +kernel)) ggX3_setLimit_X1_changeLimit
set_option maxRecDepth 20000 in
theorem ggX3_setLimit_X3_settle : GoodIn wsX3_setLimit wsX3_settle := goodIn_r _ [39, 40, 7, 1, 41, 42, 43, 44, 45, 46, 47, 48, 49, 9, 10, 11, 12, 13, 14, 15, 16, 17, 18, 19, 20, 21, 22, 23, 24, 25, 26, 27, 28, 29, 30, 31, 8, 50, 51, 52, 53, 54, 55, 71, 72, 73, 56, 57, 58, 59, 60, 61, 62, 63, 64, 65, 66, 67, 68, 69, 70] (by decide +kernel) (by decide +kernel)
set_option maxRecDepth 20000 in
theorem gX3_setLimit_X3_settle : GoodIn wsX3_setLimit (wsV RX3 47 RX3 yX3_settle wsX3_settle) := goodIn_app (goodIn_of _ (by decide +kernel)) ggX3_setLimit_X3_settle
theorem dX3_setLimit_0 : decode cX3_setLimit 0 = .ok (.aload_n 0, 1) := by decide +kernel
theorem dX3_setLimit_1 : decode cX3_setLimit 1 = .ok (.invokevirtual 40, 3) := by decide +kernel
theorem dX3_setLimit_4 : decode cX3_setLimit 4 = .ok (.aload_n 0, 1) := by decide +kernel
theorem dX3_setLimit_5 : decode cX3_setLimit 5 = .ok (.aload_n 0, 1) := by decide +kernel
theorem dX3_setLimit_6 : decode cX3_setLimit 6 = .ok (.getfield 16, 3) := by decide +kernel
theorem dX3_setLimit_9 : decode cX3_setLimit 9 = .ok (.iload_n 1, 1) := by decide +kernel
theorem dX3_setLimit_10 : decode cX3_setLimit 10 = .ok (.invokevirtual 43, 3) := by decide +kernel
theorem dX3_setLimit_13 : decode cX3_setLimit 13 = .ok (.invokevirtual 47, 3) := by decide +kernel
theorem dX3_setLimit_16 : decode cX3_setLimit 16 = .ok (.ireturn, 1) := by decide +kernel
set_option maxRecDepth 20000 in
theorem ggX3_setHead_X3_isHead : GoodIn wsX3_setHead wsX3_isHead := goodIn_r _ [5] (by decide +kernel) (by decide +kernel)
set_option maxRecDepth 20000 in
theorem gX3_setHead_X3_isHead : GoodIn wsX3_setHead (va_wsS RX3 50 yX3_isHead wsX3_isHead) := goodIn_app (goodIn_of _ (by decide +kernel)) ggX3_setHead_X3_isHead
set_option maxRecDepth 20000 in
theorem ggX3_setHead_X3_startTrial : GoodIn wsX3_setHead wsX3_startTrial := goodIn_r _ [9, 1, 10, 11, 12, 13, 14, 15, 16, 17, 18, 19, 20, 21, 22, 23, 24, 25, 26, 27, 28, 29, 30, 31, 32, 33, 34, 75, 76, 77, 78, 79, 80, 81, 82, 83, 84, 85, 86, 87, 88, 89, 90, 91, 92, 93, 94, 95] (by decide +kernel) (by decide +kernel)
set_option maxRecDepth 20000 in
theorem gX3_setHead_X3_startTrial : GoodIn wsX3_setHead (wsV RX3 40 RX3 yX3_startTrial wsX3_startTrial) := goodIn_app (goodIn_of _ (by decide +kernel)) ggX3_setHead_X3_startTrial
set_option maxRecDepth 20000 in
theorem ggX3_setHead_X1_changeAgeing : GoodIn wsX3_setHead wsX1_changeAgeing := goodIn_r _ [38, 17, 81, 82, 83, 84, 85, 86, 87, 88, 89, 90, 91, 92, 93, 94, 95] (by decide +kernel) (by decide +kernel)
set_option maxRecDepth 20000 in
theorem gX3_setHead_X1_changeAgeing : GoodIn wsX3_setHead (wsV RX3 54 RX1 yX1_changeAgeing wsX1_changeAgeing) := goodIn_app (goodIn_of _ (by decide +kernel)) ggX3_setHead_X1_changeAgeing
set_option maxRecDepth 20000 in
theorem ggX3_setHead_X1_changeSpares : GoodIn wsX3_setHead wsX1_changeSpares := goodIn_r _ [42, 23, 22, 43, 44, 45, 14, 46, 24, 47, 48, 49, 50, 27, 28, 51, 52, 53, 54, 55, 4, 56, 57, 58, 59, 60, 81, 82, 83, 84, 85, 86, 87, 88, 89, 90, 91, 92, 93, 94, 95] (by decide +kernel) (by decide +kernel)
set_option maxRecDepth 20000 in
theorem gX3_setHead_X1_changeSpares : GoodIn wsX3_setHead (wsV RX3 58 RX1 yX1_changeSpares wsX1_changeSpares) := goodIn_app (goodIn_of _ (by decide +kernel)) ggX3_setHead_X1_changeSpares
set_option maxRecDepth 20000 in
theorem ggX3_setHead_X3_settle : GoodIn wsX3_setHead wsX3_settle := goodIn_r _ [64, 65, 10, 1, 66, 67, 68, 69, 70, 71, 72, 73, 74, 12, 13, 14, 15, 16, 17, 18, 19, 20, 21, 22, 23, 24, 25, 26, 27, 28, 29, 30, 31, 32, 33, 34, 11, 75, 76, 77, 78, 79, 80, 96, 97, 98, 81, 82, 83, 84, 85, 86, 87, 88, 89, 90, 91, 92, 93, 94, 95] (by decide +kernel) (by decide +kernel)
set_option maxRecDepth 20000 in
theorem gX3_setHead_X3_settle : GoodIn wsX3_setHead (wsV RX3 47 RX3 yX3_settle wsX3_settle) := goodIn_app (goodIn_of _ (by decide +kernel)) ggX3_setHead_X3_settle
theorem dX3_setHead_0 : decode cX3_setHead 0 = .ok (.iload_n 1, 1) := by decide +kernel
theorem dX3_setHead_1 : decode cX3_setHead 1 = .ok (.invokestatic 50, 3) := by decide +kernel
theorem dX3_setHead_4 : decode cX3_setHead 4 = .ok (.ifCond .ne 5, 3) := by decide +kernel
theorem dX3_setHead_7 : decode cX3_setHead 7 = .ok (.iconst (-1), 1) := by decide +kernel
theorem dX3_setHead_8 : decode cX3_setHead 8 = .ok (.ireturn, 1) := by decide +kernel
theorem dX3_setHead_9 : decode cX3_setHead 9 = .ok (.aload_n 0, 1) := by decide +kernel
theorem dX3_setHead_10 : decode cX3_setHead 10 = .ok (.invokevirtual 40, 3) := by decide +kernel
theorem dX3_setHead_13 : decode cX3_setHead 13 = .ok (.aload_n 0, 1) := by decide +kernel
theorem dX3_setHead_14 : decode cX3_setHead 14 = .ok (.iload_n 2, 1) := by decide +kernel
theorem dX3_setHead_15 : decode cX3_setHead 15 = .ok (.ifCond .eq 15, 3) := by decide +kernel
theorem dX3_setHead_18 : decode cX3_setHead 18 = .ok (.aload_n 0, 1) := by decide +kernel
theorem dX3_setHead_19 : decode cX3_setHead 19 = .ok (.getfield 16, 3) := by decide +kernel
theorem dX3_setHead_22 : decode cX3_setHead 22 = .ok (.iload_n 1, 1) := by decide +kernel
theorem dX3_setHead_23 : decode cX3_setHead 23 = .ok (.iload_n 3, 1) := by decide +kernel
theorem dX3_setHead_24 : decode cX3_setHead 24 = .ok (.invokevirtual 54, 3) := by decide +kernel
theorem dX3_setHead_27 : decode cX3_setHead 27 = .ok (.goto 12, 3) := by decide +kernel
theorem dX3_setHead_30 : decode cX3_setHead 30 = .ok (.aload_n 0, 1) := by decide +kernel
theorem dX3_setHead_31 : decode cX3_setHead 31 = .ok (.getfield 16, 3) := by decide +kernel
theorem dX3_setHead_34 : decode cX3_setHead 34 = .ok (.iload_n 1, 1) := by decide +kernel
theorem dX3_setHead_35 : decode cX3_setHead 35 = .ok (.iload_n 3, 1) := by decide +kernel
theorem dX3_setHead_36 : decode cX3_setHead 36 = .ok (.invokevirtual 58, 3) := by decide +kernel
theorem dX3_setHead_39 : decode cX3_setHead 39 = .ok (.invokevirtual 47, 3) := by decide +kernel
theorem dX3_setHead_42 : decode cX3_setHead 42 = .ok (.ireturn, 1) := by decide +kernel
set_option maxRecDepth 20000 in
theorem ggX3_read_X3_startTrial : GoodIn wsX3_read wsX3_startTrial := goodIn_r _ [6, 1, 7, 8, 9, 10, 11, 12, 13, 14, 15, 16, 17, 18, 19, 20, 21, 22, 23, 24, 25, 26, 27, 28, 29, 30, 31, 132, 133, 134, 135, 136, 137, 138, 139, 140, 141, 142, 143, 144, 145, 146, 147, 148, 149, 150, 151, 152] (by decide +kernel) (by decide +kernel)
set_option maxRecDepth 20000 in
theorem gX3_read_X3_startTrial : GoodIn wsX3_read (wsV RX3 40 RX3 yX3_startTrial wsX3_startTrial) := goodIn_app (goodIn_of _ (by decide +kernel)) ggX3_read_X3_startTrial
set_option maxRecDepth 20000 in
theorem ggX3_read_X1_readAt : GoodIn wsX3_read wsX1_readAt := goodIn_r _ [35, 24, 30, 22, 36, 37, 38, 11, 39, 19, 40, 5, 41, 42, 43, 44, 45, 46, 47, 48, 49, 50, 51, 52, 53, 27, 26, 54, 55, 56, 57, 20, 58, 59, 60, 61, 62, 63, 64, 65, 66, 67, 68, 69, 21, 14, 70, 71, 72, 73, 28, 23, 74, 75, 76, 77, 13, 78, 79, 80, 81, 82, 83, 84, 85, 86, 87, 88, 89, 25, 90, 91, 92, 93, 94, 95, 96, 97, 98, 99, 100, 101, 102, 103, 104, 105, 106, 107, 108, 109, 110, 111, 112, 113, 114, 115, 116, 117, 29, 138, 139, 140, 141, 142, 143, 144, 145, 146, 147, 148, 149, 150, 151, 152] (by decide +kernel) (by decide +kernel)
set_option maxRecDepth 20000 in
theorem gX3_read_X1_readAt : GoodIn wsX3_read (wsV RX3 61 RX1 yX1_readAt wsX1_readAt) := goodIn_app (goodIn_of _ (by decide +kernel)) ggX3_read_X1_readAt
set_option maxRecDepth 20000 in
theorem ggX3_read_X3_settle : GoodIn wsX3_read wsX3_settle := goodIn_r _ [121, 122, 7, 1, 123, 124, 125, 126, 127, 128, 129, 130, 131, 9, 10, 11, 12, 13, 14, 15, 16, 17, 18, 19, 20, 21, 22, 23, 24, 25, 26, 27, 28, 29, 30, 31, 8, 132, 133, 134, 135, 136, 137, 153, 154, 155, 138, 139, 140, 141, 142, 143, 144, 145, 146, 147, 148, 149, 150, 151, 152] (by decide +kernel) (by decide +kernel)
set_option maxRecDepth 20000 in
theorem gX3_read_X3_settle : GoodIn wsX3_read (wsV RX3 47 RX3 yX3_settle wsX3_settle) := goodIn_app (goodIn_of _ (by decide +kernel)) ggX3_read_X3_settle
theorem dX3_read_0 : decode cX3_read 0 = .ok (.aload_n 0, 1) := by decide +kernel
theorem dX3_read_1 : decode cX3_read 1 = .ok (.invokevirtual 40, 3) := by decide +kernel
theorem dX3_read_4 : decode cX3_read 4 = .ok (.aload_n 0, 1) := by decide +kernel
theorem dX3_read_5 : decode cX3_read 5 = .ok (.aload_n 0, 1) := by decide +kernel
theorem dX3_read_6 : decode cX3_read 6 = .ok (.getfield 16, 3) := by decide +kernel
theorem dX3_read_9 : decode cX3_read 9 = .ok (.iload_n 1, 1) := by decide +kernel
theorem dX3_read_10 : decode cX3_read 10 = .ok (.invokevirtual 61, 3) := by decide +kernel
theorem dX3_read_13 : decode cX3_read 13 = .ok (.invokevirtual 47, 3) := by decide +kernel
theorem dX3_read_16 : decode cX3_read 16 = .ok (.ireturn, 1) := by decide +kernel
set_option maxRecDepth 20000 in
theorem ggX3_write_X3_startTrial : GoodIn wsX3_write wsX3_startTrial := goodIn_r _ [6, 1, 7, 8, 9, 10, 11, 12, 13, 14, 15, 16, 17, 18, 19, 20, 21, 22, 23, 24, 25, 26, 27, 28, 29, 30, 31, 128, 129, 130, 131, 132, 133, 134, 135, 136, 137, 138, 139, 140, 141, 142, 143, 144, 145, 146, 147, 148] (by decide +kernel) (by decide +kernel)
set_option maxRecDepth 20000 in
theorem gX3_write_X3_startTrial : GoodIn wsX3_write (wsV RX3 40 RX3 yX3_startTrial wsX3_startTrial) := goodIn_app (goodIn_of _ (by decide +kernel)) ggX3_write_X3_startTrial
set_option maxRecDepth 20000 in
theorem ggX3_write_X1_writeAt : GoodIn wsX3_write wsX1_writeAt := goodIn_r _ [35, 24, 22, 31, 36, 37, 38, 11, 39, 19, 40, 5, 41, 42, 43, 44, 45, 46, 47, 48, 49, 50, 51, 52, 53, 54, 55, 56, 57, 58, 59, 60, 61, 25, 20, 62, 63, 64, 65, 21, 13, 66, 67, 68, 69, 70, 71, 72, 73, 74, 75, 76, 77, 78, 79, 80, 81, 27, 26, 82, 83, 84, 85, 86, 87, 88, 89, 90, 91, 92, 93, 94, 95, 96, 97, 14, 98, 99, 100, 101, 28, 23, 102, 103, 104, 105, 106, 107, 108, 109, 110, 111, 112, 113, 29, 134, 135, 136, 137, 138, 139, 140, 141, 142, 143, 144, 145, 146, 147, 148] (by decide +kernel) (by decide +kernel)
set_option maxRecDepth 20000 in
theorem gX3_write_X1_writeAt : GoodIn wsX3_write (wsV RX3 64 RX1 yX1_writeAt wsX1_writeAt) := goodIn_app (goodIn_of _ (by decide +kernel)) ggX3_write_X1_writeAt
set_option maxRecDepth 20000 in
theorem ggX3_write_X3_settle : GoodIn wsX3_write wsX3_settle := goodIn_r _ [117, 118, 7, 1, 119, 120, 121, 122, 123, 124, 125, 126, 127, 9, 10, 11, 12, 13, 14, 15, 16, 17, 18, 19, 20, 21, 22, 23, 24, 25, 26, 27, 28, 29, 30, 31, 8, 128, 129, 130, 131, 132, 133, 149, 150, 151, 134, 135, 136, 137, 138, 139, 140, 141, 142, 143, 144, 145, 146, 147, 148] (by decide +kernel) (by decide +kernel)
set_option maxRecDepth 20000 in
theorem gX3_write_X3_settle : GoodIn wsX3_write (wsV RX3 47 RX3 yX3_settle wsX3_settle) := goodIn_app (goodIn_of _ (by decide +kernel)) ggX3_write_X3_settle
theorem dX3_write_0 : decode cX3_write 0 = .ok (.aload_n 0, 1) := by decide +kernel
theorem dX3_write_1 : decode cX3_write 1 = .ok (.invokevirtual 40, 3) := by decide +kernel
theorem dX3_write_4 : decode cX3_write 4 = .ok (.aload_n 0, 1) := by decide +kernel
theorem dX3_write_5 : decode cX3_write 5 = .ok (.aload_n 0, 1) := by decide +kernel
theorem dX3_write_6 : decode cX3_write 6 = .ok (.getfield 16, 3) := by decide +kernel
theorem dX3_write_9 : decode cX3_write 9 = .ok (.iload_n 1, 1) := by decide +kernel
theorem dX3_write_10 : decode cX3_write 10 = .ok (.iload_n 2, 1) := by decide +kernel
theorem dX3_write_11 : decode cX3_write 11 = .ok (.invokevirtual 64, 3) := by decide +kernel
theorem dX3_write_14 : decode cX3_write 14 = .ok (.invokevirtual 47, 3) := by decide +kernel
theorem dX3_write_17 : decode cX3_write 17 = .ok (.ireturn, 1) := by decide +kernel
set_option maxRecDepth 20000 in
theorem ggX3_copy_X1_isAddress : GoodIn wsX3_copy wsX1_isAddress := goodIn_r _ [7, 8, 9, 10, 11, 12, 13, 14, 15, 147, 148, 149, 150, 151, 152, 153, 154, 155, 156, 157, 158, 159, 160, 161] (by decide +kernel) (by decide +kernel)
set_option maxRecDepth 20000 in
theorem gX3_copy_X1_isAddress : GoodIn wsX3_copy (wsV RX3 67 RX1 yX1_isAddress wsX1_isAddress) := goodIn_app (goodIn_of _ (by decide +kernel)) ggX3_copy_X1_isAddress
set_option maxRecDepth 20000 in
theorem ggX3_copy_X3_startTrial : GoodIn wsX3_copy wsX3_startTrial := goodIn_r _ [19, 2, 1, 20, 21, 22, 6, 23, 24, 25, 26, 27, 28, 29, 8, 30, 31, 32, 33, 34, 35, 36, 37, 38, 39, 40, 41, 141, 142, 143, 144, 145, 146, 147, 148, 149, 150, 151, 152, 153, 154, 155, 156, 157, 158, 159, 160, 161] (by decide +kernel) (by decide +kernel)
set_option maxRecDepth 20000 in
theorem gX3_copy_X3_startTrial : GoodIn wsX3_copy (wsV RX3 40 RX3 yX3_startTrial wsX3_startTrial) := goodIn_app (goodIn_of _ (by decide +kernel)) ggX3_copy_X3_startTrial
set_option maxRecDepth 20000 in
theorem ggX3_copy_X1_copyRow : GoodIn wsX3_copy wsX1_copyRow := goodIn_r _ [45, 46, 47, 48, 6, 49, 34, 40, 32, 50, 4, 5, 7, 8, 9, 10, 11, 12, 13, 14, 15, 51, 52, 53, 54, 55, 56, 57, 58, 37, 36, 59, 60, 61, 62, 30, 63, 64, 65, 66, 67, 68, 69, 70, 71, 72, 73, 74, 31, 25, 75, 76, 77, 78, 38, 33, 79, 80, 81, 82, 24, 83, 84, 85, 86, 87, 88, 89, 90, 91, 92, 93, 94, 35, 95, 96, 97, 98, 99, 100, 101, 102, 103, 104, 105, 106, 107, 108, 109, 110, 111, 112, 113, 114, 115, 116, 117, 118, 119, 120, 121, 122, 39, 123, 124, 125, 126, 41, 147, 148, 149, 150, 151, 152, 153, 154, 155, 156, 157, 158, 159, 160, 161] (by decide +kernel) (by decide +kernel)
set_option maxRecDepth 20000 in
theorem gX3_copy_X1_copyRow : GoodIn wsX3_copy (wsV RX3 70 RX1 yX1_copyRow wsX1_copyRow) := goodIn_app (goodIn_of _ (by decide +kernel)) ggX3_copy_X1_copyRow
set_option maxRecDepth 20000 in
theorem ggX3_copy_X3_settle : GoodIn wsX3_copy wsX3_settle := goodIn_r _ [130, 131, 1, 2, 132, 133, 134, 135, 136, 137, 138, 139, 140, 21, 22, 6, 23, 24, 25, 26, 27, 28, 29, 8, 30, 31, 32, 33, 34, 35, 36, 37, 38, 39, 40, 41, 20, 141, 142, 143, 144, 145, 146, 162, 163, 164, 147, 148, 149, 150, 151, 152, 153, 154, 155, 156, 157, 158, 159, 160, 161] (by decide +kernel) (by decide +kernel)
set_option maxRecDepth 20000 in
theorem gX3_copy_X3_settle : GoodIn wsX3_copy (wsV RX3 47 RX3 yX3_settle wsX3_settle) := goodIn_app (goodIn_of _ (by decide +kernel)) ggX3_copy_X3_settle
theorem dX3_copy_0 : decode cX3_copy 0 = .ok (.aload_n 0, 1) := by decide +kernel
theorem dX3_copy_1 : decode cX3_copy 1 = .ok (.getfield 12, 3) := by decide +kernel
theorem dX3_copy_4 : decode cX3_copy 4 = .ok (.iload_n 1, 1) := by decide +kernel
theorem dX3_copy_5 : decode cX3_copy 5 = .ok (.invokevirtual 67, 3) := by decide +kernel
theorem dX3_copy_8 : decode cX3_copy 8 = .ok (.ifCond .eq 14, 3) := by decide +kernel
theorem dX3_copy_11 : decode cX3_copy 11 = .ok (.aload_n 0, 1) := by decide +kernel
theorem dX3_copy_12 : decode cX3_copy 12 = .ok (.getfield 12, 3) := by decide +kernel
theorem dX3_copy_15 : decode cX3_copy 15 = .ok (.iload_n 2, 1) := by decide +kernel
theorem dX3_copy_16 : decode cX3_copy 16 = .ok (.invokevirtual 67, 3) := by decide +kernel
theorem dX3_copy_19 : decode cX3_copy 19 = .ok (.ifCond .ne 5, 3) := by decide +kernel
theorem dX3_copy_22 : decode cX3_copy 22 = .ok (.iconst (-1), 1) := by decide +kernel
theorem dX3_copy_23 : decode cX3_copy 23 = .ok (.ireturn, 1) := by decide +kernel
theorem dX3_copy_24 : decode cX3_copy 24 = .ok (.iload_n 3, 1) := by decide +kernel
theorem dX3_copy_25 : decode cX3_copy 25 = .ok (.iconst 1, 1) := by decide +kernel
theorem dX3_copy_26 : decode cX3_copy 26 = .ok (.if_icmp .lt 9, 3) := by decide +kernel
theorem dX3_copy_29 : decode cX3_copy 29 = .ok (.iload_n 3, 1) := by decide +kernel
theorem dX3_copy_30 : decode cX3_copy 30 = .ok (.bipush 16, 2) := by decide +kernel
theorem dX3_copy_32 : decode cX3_copy 32 = .ok (.if_icmp .le 6, 3) := by decide +kernel
theorem dX3_copy_35 : decode cX3_copy 35 = .ok (.bipush (-2), 2) := by decide +kernel
theorem dX3_copy_37 : decode cX3_copy 37 = .ok (.ireturn, 1) := by decide +kernel
theorem dX3_copy_38 : decode cX3_copy 38 = .ok (.aload_n 0, 1) := by decide +kernel
theorem dX3_copy_39 : decode cX3_copy 39 = .ok (.invokevirtual 40, 3) := by decide +kernel
theorem dX3_copy_42 : decode cX3_copy 42 = .ok (.aload_n 0, 1) := by decide +kernel
theorem dX3_copy_43 : decode cX3_copy 43 = .ok (.getfield 16, 3) := by decide +kernel
theorem dX3_copy_46 : decode cX3_copy 46 = .ok (.iload_n 1, 1) := by decide +kernel
theorem dX3_copy_47 : decode cX3_copy 47 = .ok (.iload_n 2, 1) := by decide +kernel
theorem dX3_copy_48 : decode cX3_copy 48 = .ok (.iload_n 3, 1) := by decide +kernel
theorem dX3_copy_49 : decode cX3_copy 49 = .ok (.invokevirtual 70, 3) := by decide +kernel
theorem dX3_copy_52 : decode cX3_copy 52 = .ok (.istore 4, 2) := by decide +kernel
theorem dX3_copy_54 : decode cX3_copy 54 = .ok (.iload 4, 2) := by decide +kernel
theorem dX3_copy_56 : decode cX3_copy 56 = .ok (.ifCond .ne 6, 3) := by decide +kernel
theorem dX3_copy_59 : decode cX3_copy 59 = .ok (.bipush (-5), 2) := by decide +kernel
theorem dX3_copy_61 : decode cX3_copy 61 = .ok (.ireturn, 1) := by decide +kernel
theorem dX3_copy_62 : decode cX3_copy 62 = .ok (.iload 4, 2) := by decide +kernel
theorem dX3_copy_64 : decode cX3_copy 64 = .ok (.iload_n 3, 1) := by decide +kernel
theorem dX3_copy_65 : decode cX3_copy 65 = .ok (.if_icmp .ge 19, 3) := by decide +kernel
theorem dX3_copy_68 : decode cX3_copy 68 = .ok (.aload_n 0, 1) := by decide +kernel
theorem dX3_copy_69 : decode cX3_copy 69 = .ok (.invokevirtual 40, 3) := by decide +kernel
theorem dX3_copy_72 : decode cX3_copy 72 = .ok (.aload_n 0, 1) := by decide +kernel
theorem dX3_copy_73 : decode cX3_copy 73 = .ok (.getfield 16, 3) := by decide +kernel
theorem dX3_copy_76 : decode cX3_copy 76 = .ok (.iload_n 1, 1) := by decide +kernel
theorem dX3_copy_77 : decode cX3_copy 77 = .ok (.iload_n 2, 1) := by decide +kernel
theorem dX3_copy_78 : decode cX3_copy 78 = .ok (.iload 4, 2) := by decide +kernel
theorem dX3_copy_80 : decode cX3_copy 80 = .ok (.invokevirtual 70, 3) := by decide +kernel
theorem dX3_copy_83 : decode cX3_copy 83 = .ok (.pop, 1) := by decide +kernel
theorem dX3_copy_84 : decode cX3_copy 84 = .ok (.aload_n 0, 1) := by decide +kernel
theorem dX3_copy_85 : decode cX3_copy 85 = .ok (.iload 4, 2) := by decide +kernel
theorem dX3_copy_87 : decode cX3_copy 87 = .ok (.invokevirtual 47, 3) := by decide +kernel
theorem dX3_copy_90 : decode cX3_copy 90 = .ok (.ireturn, 1) := by decide +kernel
set_option maxRecDepth 20000 in
theorem ggX3_test_X3_isHead : GoodIn wsX3_test wsX3_isHead := goodIn_r _ [5] (by decide +kernel) (by decide +kernel)
set_option maxRecDepth 20000 in
theorem gX3_test_X3_isHead : GoodIn wsX3_test (va_wsS RX3 50 yX3_isHead wsX3_isHead) := goodIn_app (goodIn_of _ (by decide +kernel)) ggX3_test_X3_isHead
set_option maxRecDepth 20000 in
theorem ggX3_test_X3_startTrial : GoodIn wsX3_test wsX3_startTrial := goodIn_r _ [9, 1, 10, 11, 12, 13, 14, 15, 16, 17, 18, 19, 20, 21, 22, 23, 24, 25, 26, 27, 28, 29, 30, 31, 32, 33, 34, 143, 144, 145, 146, 147, 148, 149, 150, 151, 152, 153, 154, 155, 156, 157, 158, 159, 160, 161, 162, 163] (by decide +kernel) (by decide +kernel)
set_option maxRecDepth 20000 in
theorem gX3_test_X3_startTrial : GoodIn wsX3_test (wsV RX3 40 RX3 yX3_startTrial wsX3_startTrial) := goodIn_app (goodIn_of _ (by decide +kernel)) ggX3_test_X3_startTrial
set_option maxRecDepth 20000 in
theorem ggX3_test_X1_testHead : GoodIn wsX3_test wsX1_testHead := goodIn_r _ [38, 22, 31, 39, 40, 41, 14, 42, 43, 44, 45, 46, 27, 47, 48, 49, 50, 33, 25, 51, 52, 53, 54, 55, 4, 56, 57, 58, 59, 60, 61, 62, 63, 64, 30, 29, 65, 66, 67, 68, 23, 69, 70, 71, 72, 73, 74, 75, 76, 77, 78, 79, 80, 24, 17, 81, 82, 83, 84, 26, 85, 86, 87, 88, 16, 89, 90, 91, 92, 93, 94, 95, 96, 97, 98, 99, 100, 28, 101, 102, 103, 104, 105, 106, 107, 108, 109, 110, 111, 112, 113, 114, 115, 116, 117, 118, 119, 120, 121, 122, 123, 124, 125, 126, 127, 128, 32, 149, 150, 151, 152, 153, 154, 155, 156, 157, 158, 159, 160, 161, 162, 163] (by decide +kernel) (by decide +kernel)
set_option maxRecDepth 20000 in
theorem gX3_test_X1_testHead : GoodIn wsX3_test (wsV RX3 74 RX1 yX1_testHead wsX1_testHead) := goodIn_app (goodIn_of _ (by decide +kernel)) ggX3_test_X1_testHead
set_option maxRecDepth 20000 in
theorem ggX3_test_X3_settle : GoodIn wsX3_test wsX3_settle := goodIn_r _ [132, 133, 10, 1, 134, 135, 136, 137, 138, 139, 140, 141, 142, 12, 13, 14, 15, 16, 17, 18, 19, 20, 21, 22, 23, 24, 25, 26, 27, 28, 29, 30, 31, 32, 33, 34, 11, 143, 144, 145, 146, 147, 148, 164, 165, 166, 149, 150, 151, 152, 153, 154, 155, 156, 157, 158, 159, 160, 161, 162, 163] (by decide +kernel) (by decide +kernel)
set_option maxRecDepth 20000 in
theorem gX3_test_X3_settle : GoodIn wsX3_test (wsV RX3 47 RX3 yX3_settle wsX3_settle) := goodIn_app (goodIn_of _ (by decide +kernel)) ggX3_test_X3_settle
theorem dX3_test_0 : decode cX3_test 0 = .ok (.iload_n 1, 1) := by decide +kernel
theorem dX3_test_1 : decode cX3_test 1 = .ok (.invokestatic 50, 3) := by decide +kernel
theorem dX3_test_4 : decode cX3_test 4 = .ok (.ifCond .ne 5, 3) := by decide +kernel
theorem dX3_test_7 : decode cX3_test 7 = .ok (.iconst (-1), 1) := by decide +kernel
theorem dX3_test_8 : decode cX3_test 8 = .ok (.ireturn, 1) := by decide +kernel
theorem dX3_test_9 : decode cX3_test 9 = .ok (.aload_n 0, 1) := by decide +kernel
theorem dX3_test_10 : decode cX3_test 10 = .ok (.invokevirtual 40, 3) := by decide +kernel
