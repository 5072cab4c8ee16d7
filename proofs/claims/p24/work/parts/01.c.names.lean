set_option maxRecDepth 20000 in
theorem ggX1_tellHead_X1_leadingElsewhere : GoodIn wsX1_tellHead wsX1_leadingElsewhere := goodIn_r _ [29, 15, 16, 17] (by decide +kernel) (by decide +kernel)
set_option maxRecDepth 20000 in
theorem gX1_tellHead_X1_leadingElsewhere : GoodIn wsX1_tellHead (wsV RX1 157 RX1 yX1_leadingElsewhere wsX1_leadingElsewhere) := goodIn_app (goodIn_of _ (by decide +kernel)) ggX1_tellHead_X1_leadingElsewhere
set_option maxRecDepth 20000 in
theorem ggX1_tellHead_X1_lostOf : GoodIn wsX1_tellHead wsX1_lostOf := goodIn_r _ [33, 2, 34, 35, 36, 9, 37, 5, 54, 55, 56, 57, 58, 59, 60, 61, 62, 63, 64, 65, 66, 67, 68] (by decide +kernel) (by decide +kernel)
set_option maxRecDepth 20000 in
theorem gX1_tellHead_X1_lostOf : GoodIn wsX1_tellHead (wsV RX1 133 RX1 yX1_lostOf wsX1_lostOf) := goodIn_app (goodIn_of _ (by decide +kernel)) ggX1_tellHead_X1_lostOf
set_option maxRecDepth 20000 in
theorem ggX1_tellHead_X1_wearOf : GoodIn wsX1_tellHead wsX1_wearOf := goodIn_r _ [41, 24, 54, 55, 56, 57, 58, 59, 60, 61, 62, 63, 64, 65, 66, 67, 68] (by decide +kernel) (by decide +kernel)
set_option maxRecDepth 20000 in
theorem gX1_tellHead_X1_wearOf : GoodIn wsX1_tellHead (wsV RX1 105 RX1 yX1_wearOf wsX1_wearOf) := goodIn_app (goodIn_of _ (by decide +kernel)) ggX1_tellHead_X1_wearOf
set_option maxRecDepth 20000 in
theorem ggX1_tellHead_X1_gradedOf : GoodIn wsX1_tellHead wsX1_gradedOf := goodIn_r _ [45, 46, 47, 48, 9, 49, 20, 21, 22, 23, 24, 25, 50, 51, 52, 53, 54, 55, 56, 57, 58, 59, 60, 61, 62, 63, 64, 65, 66, 67, 68] (by decide +kernel) (by decide +kernel)
set_option maxRecDepth 20000 in
theorem gX1_tellHead_X1_gradedOf : GoodIn wsX1_tellHead (wsV RX1 161 RX1 yX1_gradedOf wsX1_gradedOf) := goodIn_app (goodIn_of _ (by decide +kernel)) ggX1_tellHead_X1_gradedOf
set_option maxRecDepth 20000 in
theorem ggX1_tellWhole_X1_overHeads : GoodIn wsX1_tellWhole wsX1_overHeads := goodIn_r _ [12, 13, 14, 15, 11, 16, 17, 18, 19, 20, 21, 22, 23, 24, 25, 26, 27, 28, 29, 30, 31, 32, 33, 34, 35, 36, 37, 38, 39, 1, 40, 41, 42, 43, 44, 45, 46, 47, 48, 49, 50, 51, 52, 53, 54, 55, 56, 57, 58, 59, 60, 61, 62, 63, 64, 65, 66, 67, 82, 83, 84, 85, 86, 87, 88, 89, 90, 91, 92, 93, 94, 95, 96] (by decide +kernel) (by decide +kernel)
set_option maxRecDepth 20000 in
theorem gX1_tellWhole_X1_overHeads : GoodIn wsX1_tellWhole (wsV RX1 164 RX1 yX1_overHeads wsX1_overHeads) := goodIn_app (goodIn_of _ (by decide +kernel)) ggX1_tellWhole_X1_overHeads
set_option maxRecDepth 20000 in
theorem ggX1_tellWhole_X1_longWayCount : GoodIn wsX1_tellWhole wsX1_longWayCount := goodIn_r _ [71, 72, 73, 74, 11, 75, 18, 76, 31, 77, 33, 34, 30, 32, 78, 79, 80, 81, 21, 48, 49, 50, 51, 82, 83, 84, 85, 86, 87, 88, 89, 90, 91, 92, 93, 94, 95, 96] (by decide +kernel) (by decide +kernel)
set_option maxRecDepth 20000 in
theorem gX1_tellWhole_X1_longWayCount : GoodIn wsX1_tellWhole (wsV RX1 167 RX1 yX1_longWayCount wsX1_longWayCount) := goodIn_app (goodIn_of _ (by decide +kernel)) ggX1_tellWhole_X1_longWayCount
set_option maxRecDepth 20000 in
theorem ggX1_tellWhole_X3_placeOf : GoodIn wsX1_tellWhole wsX3_placeOf := goodIn_r _ [34] (by decide +kernel) (by decide +kernel)
set_option maxRecDepth 20000 in
theorem gX1_tellWhole_X3_placeOf_n76 : GoodIn wsX1_tellWhole (wsX3_placeOf) := ggX1_tellWhole_X3_placeOf
set_option maxRecDepth 20000 in
theorem ggX1_tellWhole_X3_headOf : GoodIn wsX1_tellWhole wsX3_headOf := goodIn_r _ [32] (by decide +kernel) (by decide +kernel)
set_option maxRecDepth 20000 in
theorem gX1_tellWhole_X3_headOf_n80 : GoodIn wsX1_tellWhole (wsX3_headOf) := ggX1_tellWhole_X3_headOf
set_option maxRecDepth 20000 in
theorem ggX1_readsUntilChange_X1_isAddress : GoodIn wsX1_readsUntilChange wsX1_isAddress := goodIn_r _ [9, 10, 11, 12, 13, 14, 15, 16, 17, 44, 45, 46, 47, 48, 49, 50, 51, 52, 53, 54, 55, 56, 57, 58] (by decide +kernel) (by decide +kernel)
set_option maxRecDepth 20000 in
theorem gX1_readsUntilChange_X1_isAddress : GoodIn wsX1_readsUntilChange (wsV RX1 69 RX1 yX1_isAddress wsX1_isAddress) := goodIn_app (goodIn_of _ (by decide +kernel)) ggX1_readsUntilChange_X1_isAddress
set_option maxRecDepth 20000 in
theorem ggX1_readsUntilChange_X1_isLost : GoodIn wsX1_readsUntilChange wsX1_isLost := goodIn_r _ [21, 1, 44, 45, 46, 47, 48, 49, 50, 51, 52, 53, 54, 55, 56, 57, 58] (by decide +kernel) (by decide +kernel)
set_option maxRecDepth 20000 in
theorem gX1_readsUntilChange_X1_isLost : GoodIn wsX1_readsUntilChange (wsV RX1 83 RX1 yX1_isLost wsX1_isLost) := goodIn_app (goodIn_of _ (by decide +kernel)) ggX1_readsUntilChange_X1_isLost
set_option maxRecDepth 20000 in
theorem ggX1_readsUntilChange_X1_lendableTo : GoodIn wsX1_readsUntilChange wsX1_lendableTo := goodIn_r _ [25, 16, 12, 17, 26, 27, 28, 8, 29, 30, 31, 32, 33, 10, 34, 35, 14, 15, 36, 37, 38, 39, 3, 2, 40, 41, 42, 43, 44, 45, 46, 47, 48, 49, 50, 51, 52, 53, 54, 55, 56, 57, 58] (by decide +kernel) (by decide +kernel)
set_option maxRecDepth 20000 in
theorem gX1_readsUntilChange_X1_lendableTo : GoodIn wsX1_readsUntilChange (wsV RX1 118 RX1 yX1_lendableTo wsX1_lendableTo) := goodIn_app (goodIn_of _ (by decide +kernel)) ggX1_readsUntilChange_X1_lendableTo
set_option maxRecDepth 20000 in
theorem ggX1_readsUntilChange_X3_headOf : GoodIn wsX1_readsUntilChange wsX3_headOf := goodIn_r _ [17] (by decide +kernel) (by decide +kernel)
set_option maxRecDepth 20000 in
theorem gX1_readsUntilChange_X3_headOf_n80 : GoodIn wsX1_readsUntilChange (wsX3_headOf) := ggX1_readsUntilChange_X3_headOf
set_option maxRecDepth 20000 in
theorem ggX1_addressOfRank_X1_hasRank : GoodIn wsX1_addressOfRank wsX1_hasRank := goodIn_r _ [5, 6, 7, 8, 4, 9, 10, 11, 12, 13, 14, 15, 16, 17, 18, 19, 20, 21, 22, 28, 29, 30, 31, 32, 33, 34, 35, 36, 37, 38, 39, 40, 41, 42] (by decide +kernel) (by decide +kernel)
set_option maxRecDepth 20000 in
theorem gX1_addressOfRank_X1_hasRank : GoodIn wsX1_addressOfRank (wsV RX1 171 RX1 yX1_hasRank wsX1_hasRank) := goodIn_app (goodIn_of _ (by decide +kernel)) ggX1_addressOfRank_X1_hasRank
set_option maxRecDepth 20000 in
theorem ggX1_addressOfRank_X1_rankOf : GoodIn wsX1_addressOfRank wsX1_rankOf := goodIn_r _ [26, 27, 22, 1, 2, 3, 4, 5, 6, 7, 8, 9, 10, 11, 12, 13, 14, 15, 16, 17, 18, 19, 20, 21, 28, 29, 30, 31, 32, 33, 34, 35, 36, 37, 38, 39, 40, 41, 42] (by decide +kernel) (by decide +kernel)
set_option maxRecDepth 20000 in
theorem gX1_addressOfRank_X1_rankOf : GoodIn wsX1_addressOfRank (wsV RX1 174 RX1 yX1_rankOf wsX1_rankOf) := goodIn_app (goodIn_of _ (by decide +kernel)) ggX1_addressOfRank_X1_rankOf
set_option maxRecDepth 20000 in
theorem ggX1_hasRank_X1_isAddress : GoodIn wsX1_hasRank wsX1_isAddress := goodIn_r _ [5, 6, 7, 8, 9, 10, 11, 12, 13, 19, 20, 21, 22, 23, 24, 25, 26, 27, 28, 29, 30, 31, 32, 33] (by decide +kernel) (by decide +kernel)
set_option maxRecDepth 20000 in
theorem gX1_hasRank_X1_isAddress : GoodIn wsX1_hasRank (wsV RX1 69 RX1 yX1_isAddress wsX1_isAddress) := goodIn_app (goodIn_of _ (by decide +kernel)) ggX1_hasRank_X1_isAddress
set_option maxRecDepth 20000 in
theorem ggX1_hasRank_X1_isLost : GoodIn wsX1_hasRank wsX1_isLost := goodIn_r _ [17, 18, 19, 20, 21, 22, 23, 24, 25, 26, 27, 28, 29, 30, 31, 32, 33] (by decide +kernel) (by decide +kernel)
set_option maxRecDepth 20000 in
theorem gX1_hasRank_X1_isLost : GoodIn wsX1_hasRank (wsV RX1 83 RX1 yX1_isLost wsX1_isLost) := goodIn_app (goodIn_of _ (by decide +kernel)) ggX1_hasRank_X1_isLost
set_option maxRecDepth 20000 in
theorem ggX1_rankOf_X1_hasRank : GoodIn wsX1_rankOf wsX1_hasRank := goodIn_r _ [7, 8, 9, 10, 6, 11, 12, 13, 14, 15, 16, 17, 18, 19, 20, 21, 22, 23, 2, 24, 25, 26, 27, 28, 29, 30, 31, 32, 33, 34, 35, 36, 37, 38] (by decide +kernel) (by decide +kernel)
set_option maxRecDepth 20000 in
theorem gX1_rankOf_X1_hasRank : GoodIn wsX1_rankOf (wsV RX1 171 RX1 yX1_hasRank wsX1_hasRank) := goodIn_app (goodIn_of _ (by decide +kernel)) ggX1_rankOf_X1_hasRank
set_option maxRecDepth 20000 in
theorem ggX1_leadingElsewhere_X3_headOf : GoodIn wsX1_leadingElsewhere wsX3_headOf := goodIn_r _ [3] (by decide +kernel) (by decide +kernel)
set_option maxRecDepth 20000 in
theorem gX1_leadingElsewhere_X3_headOf_n80 : GoodIn wsX1_leadingElsewhere (wsX3_headOf) := ggX1_leadingElsewhere_X3_headOf
set_option maxRecDepth 20000 in
theorem ggX1_lostOf_X1_isLost : GoodIn wsX1_lostOf wsX1_isLost := goodIn_r _ [6, 7, 8, 9, 10, 11, 12, 13, 14, 15, 16, 17, 18, 19, 20, 21, 22] (by decide +kernel) (by decide +kernel)
set_option maxRecDepth 20000 in
theorem gX1_lostOf_X1_isLost : GoodIn wsX1_lostOf (wsV RX1 83 RX1 yX1_isLost wsX1_isLost) := goodIn_app (goodIn_of _ (by decide +kernel)) ggX1_lostOf_X1_isLost
set_option maxRecDepth 20000 in
theorem ggX1_gradedOf_X1_gradeOf : GoodIn wsX1_gradedOf wsX1_gradeOf := goodIn_r _ [5, 6, 7, 8, 4, 9, 10, 11, 12, 13, 14, 15, 16, 17, 18, 19, 20, 21, 22, 23, 24, 25, 26, 27, 28, 29, 30] (by decide +kernel) (by decide +kernel)
set_option maxRecDepth 20000 in
theorem gX1_gradedOf_X1_gradeOf : GoodIn wsX1_gradedOf (wsV RX1 154 RX1 yX1_gradeOf wsX1_gradeOf) := goodIn_app (goodIn_of _ (by decide +kernel)) ggX1_gradedOf_X1_gradeOf
set_option maxRecDepth 20000 in
theorem ggX1_overHeads_X1_tellHead : GoodIn wsX1_overHeads wsX1_tellHead := goodIn_r _ [5, 6, 7, 8, 9, 10, 11, 12, 13, 4, 14, 15, 16, 17, 18, 19, 20, 21, 22, 23, 24, 25, 26, 27, 28, 29, 30, 31, 32, 33, 34, 35, 36, 37, 38, 39, 40, 41, 42, 43, 44, 45, 46, 47, 48, 49, 50, 51, 52, 53, 54, 55, 56, 57, 58, 59, 60, 61, 62, 63, 64, 65, 66, 67, 68, 69, 70, 71, 72] (by decide +kernel) (by decide +kernel)
set_option maxRecDepth 20000 in
theorem gX1_overHeads_X1_tellHead : GoodIn wsX1_overHeads (wsV RX1 177 RX1 yX1_tellHead wsX1_tellHead) := goodIn_app (goodIn_of _ (by decide +kernel)) ggX1_overHeads_X1_tellHead
set_option maxRecDepth 20000 in
theorem ggX1_longWayCount_X1_isAddress : GoodIn wsX1_longWayCount wsX1_isAddress := goodIn_r _ [5, 6, 7, 8, 9, 10, 11, 12, 13, 23, 24, 25, 26, 27, 28, 29, 30, 31, 32, 33, 34, 35, 36, 37] (by decide +kernel) (by decide +kernel)
set_option maxRecDepth 20000 in
theorem gX1_longWayCount_X1_isAddress : GoodIn wsX1_longWayCount (wsV RX1 69 RX1 yX1_isAddress wsX1_isAddress) := goodIn_app (goodIn_of _ (by decide +kernel)) ggX1_longWayCount_X1_isAddress
set_option maxRecDepth 20000 in
theorem ggX1_longWayCount_X1_isLongWay : GoodIn wsX1_longWayCount wsX1_isLongWay := goodIn_r _ [17, 18, 19, 20, 21, 4, 22, 23, 24, 25, 26, 27, 28, 29, 30, 31, 32, 33, 34, 35, 36, 37] (by decide +kernel) (by decide +kernel)
set_option maxRecDepth 20000 in
theorem gX1_longWayCount_X1_isLongWay : GoodIn wsX1_longWayCount (wsV RX1 148 RX1 yX1_isLongWay wsX1_isLongWay) := goodIn_app (goodIn_of _ (by decide +kernel)) ggX1_longWayCount_X1_isLongWay
set_option maxRecDepth 20000 in
theorem ggX2_init_X1_init : GoodIn wsX2_init wsX1_init := goodIn_r _ [12, 13, 2, 3, 14, 15, 16, 17, 18, 19, 20, 21, 22, 23, 24, 25, 26, 27, 28, 29, 30, 31, 32, 33, 9, 34, 35, 36, 37, 38, 39, 40, 41, 42, 43, 44, 45, 49, 50, 51, 52, 53, 54, 55, 56, 57, 58, 59, 60, 61, 62, 63] (by decide +kernel) (by decide +kernel)
set_option maxRecDepth 20000 in
theorem gX2_init_X1_init : GoodIn wsX2_init (wsX1_init) := ggX2_init_X1_init
set_option maxRecDepth 20000 in
theorem ggX2_record_X1_takeOver : GoodIn wsX2_record wsX1_takeOver := goodIn_r _ [8, 9, 10, 11, 12, 13, 14, 15, 16, 17, 18, 19, 20, 21, 22, 23, 24, 25, 26, 27, 31, 32, 33, 34, 35, 36, 37, 38, 39, 40, 41, 42, 43, 44, 45] (by decide +kernel) (by decide +kernel)
set_option maxRecDepth 20000 in
theorem gX2_record_X1_takeOver : GoodIn wsX2_record (wsV RX2 25 RX1 yX1_takeOver wsX1_takeOver) := goodIn_app (goodIn_of _ (by decide +kernel)) ggX2_record_X1_takeOver
set_option maxRecDepth 20000 in
theorem ggX2_takeBack_X1_takeOver : GoodIn wsX2_takeBack wsX1_takeOver := goodIn_r _ [8, 9, 10, 11, 12, 13, 14, 15, 16, 17, 18, 19, 20, 21, 22, 23, 24, 25, 26, 27, 31, 32, 33, 34, 35, 36, 37, 38, 39, 40, 41, 42, 43, 44, 45] (by decide +kernel) (by decide +kernel)
set_option maxRecDepth 20000 in
theorem gX2_takeBack_X1_takeOver : GoodIn wsX2_takeBack (wsV RX2 25 RX1 yX1_takeOver wsX1_takeOver) := goodIn_app (goodIn_of _ (by decide +kernel)) ggX2_takeBack_X1_takeOver
set_option maxRecDepth 20000 in
theorem ggX3_init_X1_init : GoodIn wsX3_init wsX1_init := goodIn_r _ [21, 22, 2, 3, 23, 24, 25, 26, 27, 28, 29, 30, 31, 32, 33, 34, 35, 36, 37, 38, 39, 40, 41, 42, 6, 43, 44, 45, 46, 47, 48, 49, 50, 51, 52, 53, 54, 73, 74, 75, 76, 77, 78, 79, 80, 81, 82, 83, 84, 85, 86, 87] (by decide +kernel) (by decide +kernel)
set_option maxRecDepth 20000 in
theorem gX3_init_X1_init : GoodIn wsX3_init (wsX1_init) := ggX3_init_X1_init
set_option maxRecDepth 20000 in
theorem ggX3_init_X2_init : GoodIn wsX3_init wsX2_init := goodIn_r _ [57, 58, 2, 3, 59, 60, 61, 62, 5, 6, 63, 20, 21, 22, 23, 24, 25, 26, 27, 28, 29, 30, 31, 32, 33, 34, 35, 36, 37, 38, 39, 40, 41, 42, 43, 44, 45, 46, 47, 48, 49, 50, 51, 52, 53, 54, 94, 95, 96, 73, 74, 75, 76, 77, 78, 79, 80, 81, 82, 83, 84, 85, 86, 87] (by decide +kernel) (by decide +kernel)
set_option maxRecDepth 20000 in
theorem gX3_init_X2_init : GoodIn wsX3_init (wsX2_init) := ggX3_init_X2_init
set_option maxRecDepth 20000 in
theorem ggX3_init_X0_init : GoodIn wsX3_init wsX0_init := goodIn_r _ [65, 66, 2, 3, 24, 67, 68, 69, 70, 71, 72, 97, 98, 99, 100, 101, 102] (by decide +kernel) (by decide +kernel)
set_option maxRecDepth 20000 in
theorem gX3_init_X0_init_n31 : GoodIn wsX3_init (wsX0_init) := ggX3_init_X0_init
set_option maxRecDepth 20000 in
theorem ggX3_setLimit_X3_startTrial : GoodIn wsX3_setLimit wsX3_startTrial := goodIn_r _ [6, 1, 7, 8, 9, 10, 11, 12, 13, 14, 15, 16, 17, 18, 19, 20, 21, 22, 23, 24, 25, 26, 27, 28, 29, 30, 31, 50, 51, 52, 53, 54, 55, 56, 57, 58, 59, 60, 61, 62, 63, 64, 65, 66, 67, 68, 69, 70] (by decide +kernel) (by decide +kernel)
set_option maxRecDepth 20000 in
theorem gX3_setLimit_X3_startTrial : GoodIn wsX3_setLimit (wsV RX3 40 RX3 yX3_startTrial wsX3_startTrial) := goodIn_app (goodIn_of _ (by decide +kernel)) ggX3_setLimit_X3_startTrial
set_option maxRecDepth 20000 in
theorem ggX3_setLimit_X1_changeLimit : GoodIn wsX3_setLimit wsX1_changeLimit := goodIn_r _ [35, 13, 56, 57, 58, 59, 60, 61, 62, 63, 64, 65, 66, 67, 68, 69, 70] (by decide +kernel) (by decide +kernel)
set_option maxRecDepth 20000 in
theorem gX3_setLimit_X1_changeLimit : GoodIn wsX3_setLimit (wsV RX3 43 RX1 yX1_changeLimit wsX1_changeLimit) := goodIn_app (goodIn_of _ (by decide +kernel)) ggX3_setLimit_X1_changeLimit
set_option maxRecDepth 20000 in
theorem ggX3_setLimit_X3_settle : GoodIn wsX3_setLimit wsX3_settle := goodIn_r _ [39, 40, 7, 1, 41, 42, 43, 44, 45, 46, 47, 48, 49, 9, 10, 11, 12, 13, 14, 15, 16, 17, 18, 19, 20, 21, 22, 23, 24, 25, 26, 27, 28, 29, 30, 31, 8, 50, 51, 52, 53, 54, 55, 71, 72, 73, 56, 57, 58, 59, 60, 61, 62, 63, 64, 65, 66, 67, 68, 69, 70] (by decide +kernel) (by decide +kernel)
set_option maxRecDepth 20000 in
theorem gX3_setLimit_X3_settle : GoodIn wsX3_setLimit (wsV RX3 47 RX3 yX3_settle wsX3_settle) := goodIn_app (goodIn_of _ (by decide +kernel)) ggX3_setLimit_X3_settle
set_option maxRecDepth 20000 in
theorem ggX3_read_X3_startTrial : GoodIn wsX3_read wsX3_startTrial := goodIn_r _ [6, 1, 7, 8, 9, 10, 11, 12, 13, 14, 15, 16, 17, 18, 19, 20, 21, 22, 23, 24, 25, 26, 27, 28, 29, 30, 31, 132, 133, 134, 135, 136, 137, 138, 139, 140, 141, 142, 143, 144, 145, 146, 147, 148, 149, 150, 151, 152] (by decide +kernel) (by decide +kernel)
set_option maxRecDepth 20000 in
theorem gX3_read_X3_startTrial : GoodIn wsX3_read (wsV RX3 40 RX3 yX3_startTrial wsX3_startTrial) := goodIn_app (goodIn_of _ (by decide +kernel)) ggX3_read_X3_startTrial
set_option maxRecDepth 20000 in
theorem ggX3_read_X1_readAt : GoodIn wsX3_read wsX1_readAt := goodIn_r _ [35, 24, 30, 22, 36, 37, 38, 11, 39, 19, 40, 5, 41, 42, 43, 44, 45, 46, 47, 48, 49, 50, 51, 52, 53, 27, 26, 54, 55, 56, 57, 20, 58, 59, 60, 61, 62, 63, 64, 65, 66, 67, 68, 69, 21, 14, 70, 71, 72, 73, 28, 23, 74, 75, 76, 77, 13, 78, 79, 80, 81, 82, 83, 84, 85, 86, 87, 88, 89, 25, 90, 91, 92, 93, 94, 95, 96, 97, 98, 99, 100, 101, 102, 103, 104, 105, 106, 107, 108, 109, 110, 111, 112, 113, 114, 115, 116, 117, 29, 138, 139, 140, 141, 142, 143, 144, 145, 146, 147, 148, 149, 150, 151, 152] (by decide +kernel) (by decide +kernel)
set_option maxRecDepth 20000 in
theorem gX3_read_X1_readAt : GoodIn wsX3_read (wsV RX3 61 RX1 yX1_readAt wsX1_readAt) := goodIn_app (goodIn_of _ (by decide +kernel)) ggX3_read_X1_readAt
set_option maxRecDepth 20000 in
theorem ggX3_read_X3_settle : GoodIn wsX3_read wsX3_settle := goodIn_r _ [121, 122, 7, 1, 123, 124, 125, 126, 127, 128, 129, 130, 131, 9, 10, 11, 12, 13, 14, 15, 16, 17, 18, 19, 20, 21, 22, 23, 24, 25, 26, 27, 28, 29, 30, 31, 8, 132, 133, 134, 135, 136, 137, 153, 154, 155, 138, 139, 140, 141, 142, 143, 144, 145, 146, 147, 148, 149, 150, 151, 152] (by decide +kernel) (by decide +kernel)
set_option maxRecDepth 20000 in
theorem gX3_read_X3_settle : GoodIn wsX3_read (wsV RX3 47 RX3 yX3_settle wsX3_settle) := goodIn_app (goodIn_of _ (by decide +kernel)) ggX3_read_X3_settle
set_option maxRecDepth 20000 in
theorem ggX3_write_X3_startTrial : GoodIn wsX3_write wsX3_startTrial := goodIn_r _ [6, 1, 7, 8, 9, 10, 11, 12, 13, 14, 15, 16, 17, 18, 19, 20, 21, 22, 23, 24, 25, 26, 27, 28, 29, 30, 31, 128, 129, 130, 131, 132, 133, 134, 135, 136, 137, 138, 139, 140, 141, 142, 143, 144, 145, 146, 147, 148] (by decide +kernel) (by decide +kernel)
set_option maxRecDepth 20000 in
theorem gX3_write_X3_startTrial : GoodIn wsX3_write (wsV RX3 40 RX3 yX3_startTrial wsX3_startTrial) := goodIn_app (goodIn_of _ (by decide +kernel)) ggX3_write_X3_startTrial
set_option maxRecDepth 20000 in
theorem ggX3_write_X1_writeAt : GoodIn wsX3_write wsX1_writeAt := goodIn_r _ [35, 24, 22, 31, 36, 37, 38, 11, 39, 19, 40, 5, 41, 42, 43, 44, 45, 46, 47, 48, 49, 50, 51, 52, 53, 54, 55, 56, 57, 58, 59, 60, 61, 25, 20, 62, 63, 64, 65, 21, 13, 66, 67, 68, 69, 70, 71, 72, 73, 74, 75, 76, 77, 78, 79, 80, 81, 27, 26, 82, 83, 84, 85, 86, 87, 88, 89, 90, 91, 92, 93, 94, 95, 96, 97, 14, 98, 99, 100, 101, 28, 23, 102, 103, 104, 105, 106, 107, 108, 109, 110, 111, 112, 113, 29, 134, 135, 136, 137, 138, 139, 140, 141, 142, 143, 144, 145, 146, 147, 148] (by decide +kernel) (by decide +kernel)
set_option maxRecDepth 20000 in
theorem gX3_write_X1_writeAt : GoodIn wsX3_write (wsV RX3 64 RX1 yX1_writeAt wsX1_writeAt) := goodIn_app (goodIn_of _ (by decide +kernel)) ggX3_write_X1_writeAt
set_option maxRecDepth 20000 in
theorem ggX3_write_X3_settle : GoodIn wsX3_write wsX3_settle := goodIn_r _ [117, 118, 7, 1, 119, 120, 121, 122, 123, 124, 125, 126, 127, 9, 10, 11, 12, 13, 14, 15, 16, 17, 18, 19, 20, 21, 22, 23, 24, 25, 26, 27, 28, 29, 30, 31, 8, 128, 129, 130, 131, 132, 133, 149, 150, 151, 134, 135, 136, 137, 138, 139, 140, 141, 142, 143, 144, 145, 146, 147, 148] (by decide +kernel) (by decide +kernel)
set_option maxRecDepth 20000 in
theorem gX3_write_X3_settle : GoodIn wsX3_write (wsV RX3 47 RX3 yX3_settle wsX3_settle) := goodIn_app (goodIn_of _ (by decide +kernel)) ggX3_write_X3_settle
set_option maxRecDepth 20000 in
theorem ggX3_copy_X1_isAddress : GoodIn wsX3_copy wsX1_isAddress := goodIn_r _ [7, 8, 9, 10, 11, 12, 13, 14, 15, 147, 148, 149, 150, 151, 152, 153, 154, 155, 156, 157, 158, 159, 160, 161] (by decide +kernel) (by decide +kernel)
set_option maxRecDepth 20000 in
theorem gX3_copy_X1_isAddress : GoodIn wsX3_copy (wsV RX3 67 RX1 yX1_isAddress wsX1_isAddress) := goodIn_app (goodIn_of _ (by decide +kernel)) ggX3_copy_X1_isAddress
set_option maxRecDepth 20000 in
theorem ggX3_copy_X3_startTrial : GoodIn wsX3_copy wsX3_startTrial := goodIn_r _ [19, 2, 1, 20, 21, 22, 6, 23, 24, 25, 26, 27, 28, 29, 8, 30, 31, 32, 33, 34, 35, 36, 37, 38, 39, 40, 41, 141, 142, 143, 144, 145, 146, 147, 148, 149, 150, 151, 152, 153, 154, 155, 156, 157, 158, 159, 160, 161] (by decide +kernel) (by decide +kernel)
set_option maxRecDepth 20000 in
theorem gX3_copy_X3_startTrial : GoodIn wsX3_copy (wsV RX3 40 RX3 yX3_startTrial wsX3_startTrial) := goodIn_app (goodIn_of _ (by decide +kernel)) ggX3_copy_X3_startTrial
set_option maxRecDepth 20000 in
theorem ggX3_copy_X1_copyRow : GoodIn wsX3_copy wsX1_copyRow := goodIn_r _ [45, 46, 47, 48, 6, 49, 34, 40, 32, 50, 4, 5, 7, 8, 9, 10, 11, 12, 13, 14, 15, 51, 52, 53, 54, 55, 56, 57, 58, 37, 36, 59, 60, 61, 62, 30, 63, 64, 65, 66, 67, 68, 69, 70, 71, 72, 73, 74, 31, 25, 75, 76, 77, 78, 38, 33, 79, 80, 81, 82, 24, 83, 84, 85, 86, 87, 88, 89, 90, 91, 92, 93, 94, 35, 95, 96, 97, 98, 99, 100, 101, 102, 103, 104, 105, 106, 107, 108, 109, 110, 111, 112, 113, 114, 115, 116, 117, 118, 119, 120, 121, 122, 39, 123, 124, 125, 126, 41, 147, 148, 149, 150, 151, 152, 153, 154, 155, 156, 157, 158, 159, 160, 161] (by decide +kernel) (by decide +kernel)
set_option maxRecDepth 20000 in
theorem gX3_copy_X1_copyRow : GoodIn wsX3_copy (wsV RX3 70 RX1 yX1_copyRow wsX1_copyRow) := goodIn_app (goodIn_of _ (by decide +kernel)) ggX3_copy_X1_copyRow
set_option maxRecDepth 20000 in
theorem ggX3_copy_X3_settle : GoodIn wsX3_copy wsX3_settle := goodIn_r _ [130, 131, 1, 2, 132, 133, 134, 135, 136, 137, 138, 139, 140, 21, 22, 6, 23, 24, 25, 26, 27, 28, 29, 8, 30, 31, 32, 33, 34, 35, 36, 37, 38, 39, 40, 41, 20, 141, 142, 143, 144, 145, 146, 162, 163, 164, 147, 148, 149, 150, 151, 152, 153, 154, 155, 156, 157, 158, 159, 160, 161] (by decide +kernel) (by decide +kernel)
set_option maxRecDepth 20000 in
theorem gX3_copy_X3_settle : GoodIn wsX3_copy (wsV RX3 47 RX3 yX3_settle wsX3_settle) := goodIn_app (goodIn_of _ (by decide +kernel)) ggX3_copy_X3_settle
set_option maxRecDepth 20000 in
theorem ggX3_test_X3_isHead : GoodIn wsX3_test wsX3_isHead := goodIn_r _ [5] (by decide +kernel) (by decide +kernel)
set_option maxRecDepth 20000 in
theorem gX3_test_X3_isHead : GoodIn wsX3_test (va_wsS RX3 50 yX3_isHead wsX3_isHead) := goodIn_app (goodIn_of _ (by decide +kernel)) ggX3_test_X3_isHead
set_option maxRecDepth 20000 in
theorem ggX3_test_X3_startTrial : GoodIn wsX3_test wsX3_startTrial := goodIn_r _ [9, 1, 10, 11, 12, 13, 14, 15, 16, 17, 18, 19, 20, 21, 22, 23, 24, 25, 26, 27, 28, 29, 30, 31, 32, 33, 34, 143, 144, 145, 146, 147, 148, 149, 150, 151, 152, 153, 154, 155, 156, 157, 158, 159, 160, 161, 162, 163] (by decide +kernel) (by decide +kernel)
set_option maxRecDepth 20000 in
theorem gX3_test_X3_startTrial : GoodIn wsX3_test (wsV RX3 40 RX3 yX3_startTrial wsX3_startTrial) := goodIn_app (goodIn_of _ (by decide +kernel)) ggX3_test_X3_startTrial
set_option maxRecDepth 20000 in
theorem ggX3_test_X1_testHead : GoodIn wsX3_test wsX1_testHead := goodIn_r _ [38, 22, 31, 39, 40, 41, 14, 42, 43, 44, 45, 46, 27, 47, 48, 49, 50, 33, 25, 51, 52, 53, 54, 55, 4, 56, 57, 58, 59, 60, 61, 62, 63, 64, 30, 29, 65, 66, 67, 68, 23, 69, 70, 71, 72, 73, 74, 75, 76, 77, 78, 79, 80, 24, 17, 81, 82, 83, 84, 26, 85, 86, 87, 88, 16, 89, 90, 91, 92, 93, 94, 95, 96, 97, 98, 99, 100, 28, 101, 102, 103, 104, 105, 106, 107, 108, 109, 110, 111, 112, 113, 114, 115, 116, 117, 118, 119, 120, 121, 122, 123, 124, 125, 126, 127, 128, 32, 149, 150, 151, 152, 153, 154, 155, 156, 157, 158, 159, 160, 161, 162, 163] (by decide +kernel) (by decide +kernel)
set_option maxRecDepth 20000 in
theorem gX3_test_X1_testHead : GoodIn wsX3_test (wsV RX3 74 RX1 yX1_testHead wsX1_testHead) := goodIn_app (goodIn_of _ (by decide +kernel)) ggX3_test_X1_testHead
set_option maxRecDepth 20000 in
theorem ggX3_test_X3_settle : GoodIn wsX3_test wsX3_settle := goodIn_r _ [132, 133, 10, 1, 134, 135, 136, 137, 138, 139, 140, 141, 142, 12, 13, 14, 15, 16, 17, 18, 19, 20, 21, 22, 23, 24, 25, 26, 27, 28, 29, 30, 31, 32, 33, 34, 11, 143, 144, 145, 146, 147, 148, 164, 165, 166, 149, 150, 151, 152, 153, 154, 155, 156, 157, 158, 159, 160, 161, 162, 163] (by decide +kernel) (by decide +kernel)
set_option maxRecDepth 20000 in
theorem gX3_test_X3_settle : GoodIn wsX3_test (wsV RX3 47 RX3 yX3_settle wsX3_settle) := goodIn_app (goodIn_of _ (by decide +kernel)) ggX3_test_X3_settle
set_option maxRecDepth 20000 in
theorem ggX3_perform_X0_parse : GoodIn wsX3_perform wsX0_parse := goodIn_r _ [7, 8, 9, 10, 11, 12, 6, 13, 14, 15, 16, 17, 18, 19, 20, 21, 22, 23, 24, 25, 26, 27, 28, 29, 30, 31, 32, 33, 34, 35, 36, 37, 190, 191, 192, 193, 194, 195] (by decide +kernel) (by decide +kernel)
set_option maxRecDepth 20000 in
theorem gX3_perform_X0_parse : GoodIn wsX3_perform (wsV RX3 77 RX0 yX0_parse wsX0_parse) := goodIn_app (goodIn_of _ (by decide +kernel)) ggX3_perform_X0_parse
set_option maxRecDepth 20000 in
theorem ggX3_perform_X3_startTrial : GoodIn wsX3_perform wsX3_startTrial := goodIn_r _ [42, 2, 43, 44, 45, 46, 47, 48, 49, 50, 51, 52, 53, 54, 55, 56, 57, 58, 59, 60, 61, 62, 63, 64, 65, 66, 67, 184, 185, 186, 187, 188, 189, 196, 197, 198, 199, 200, 201, 202, 203, 204, 205, 206, 207, 208, 209, 210] (by decide +kernel) (by decide +kernel)
set_option maxRecDepth 20000 in
theorem gX3_perform_X3_startTrial : GoodIn wsX3_perform (wsV RX3 40 RX3 yX3_startTrial wsX3_startTrial) := goodIn_app (goodIn_of _ (by decide +kernel)) ggX3_perform_X3_startTrial
set_option maxRecDepth 20000 in
theorem ggX3_perform_X0_commandCount : GoodIn wsX3_perform wsX0_commandCount := goodIn_r _ [71, 9, 190, 191, 192, 193, 194, 195] (by decide +kernel) (by decide +kernel)
set_option maxRecDepth 20000 in
theorem gX3_perform_X0_commandCount : GoodIn wsX3_perform (wsV RX3 81 RX0 yX0_commandCount wsX0_commandCount) := goodIn_app (goodIn_of _ (by decide +kernel)) ggX3_perform_X0_commandCount
set_option maxRecDepth 20000 in
theorem ggX3_perform_X0_commandSector : GoodIn wsX3_perform wsX0_commandSector := goodIn_r _ [75, 36, 190, 191, 192, 193, 194, 195] (by decide +kernel) (by decide +kernel)
set_option maxRecDepth 20000 in
theorem gX3_perform_X0_commandSector : GoodIn wsX3_perform (wsV RX3 84 RX0 yX0_commandSector wsX0_commandSector) := goodIn_app (goodIn_of _ (by decide +kernel)) ggX3_perform_X0_commandSector
set_option maxRecDepth 20000 in
theorem ggX3_perform_X0_commandValue : GoodIn wsX3_perform wsX0_commandValue := goodIn_r _ [79, 37, 190, 191, 192, 193, 194, 195] (by decide +kernel) (by decide +kernel)
set_option maxRecDepth 20000 in
theorem gX3_perform_X0_commandValue : GoodIn wsX3_perform (wsV RX3 87 RX0 yX0_commandValue wsX0_commandValue) := goodIn_app (goodIn_of _ (by decide +kernel)) ggX3_perform_X0_commandValue
set_option maxRecDepth 20000 in
theorem ggX3_perform_X1_readAt : GoodIn wsX3_perform wsX1_readAt := goodIn_r _ [83, 60, 66, 58, 84, 85, 86, 47, 87, 55, 88, 41, 89, 90, 91, 92, 93, 94, 95, 96, 97, 98, 99, 100, 101, 63, 62, 102, 103, 104, 105, 56, 106, 107, 108, 109, 110, 111, 112, 113, 114, 115, 116, 117, 57, 50, 118, 119, 120, 121, 64, 59, 122, 123, 124, 125, 49, 126, 127, 128, 129, 130, 131, 132, 133, 134, 135, 136, 137, 61, 138, 139, 140, 141, 142, 143, 144, 145, 146, 147, 148, 149, 150, 151, 152, 153, 154, 155, 156, 157, 158, 159, 160, 161, 162, 163, 164, 165, 65, 196, 197, 198, 199, 200, 201, 202, 203, 204, 205, 206, 207, 208, 209, 210] (by decide +kernel) (by decide +kernel)
set_option maxRecDepth 20000 in
theorem gX3_perform_X1_readAt : GoodIn wsX3_perform (wsV RX3 61 RX1 yX1_readAt wsX1_readAt) := goodIn_app (goodIn_of _ (by decide +kernel)) ggX3_perform_X1_readAt
set_option maxRecDepth 20000 in
theorem ggX3_perform_X1_writeAt : GoodIn wsX3_perform wsX1_writeAt := goodIn_r _ [169, 60, 58, 67, 84, 85, 86, 47, 87, 55, 88, 41, 89, 90, 91, 92, 93, 94, 95, 96, 97, 126, 127, 128, 129, 130, 131, 132, 133, 134, 135, 136, 137, 61, 56, 122, 123, 124, 125, 57, 49, 138, 139, 140, 141, 142, 143, 144, 145, 146, 147, 148, 149, 98, 99, 100, 101, 63, 62, 102, 103, 104, 105, 106, 107, 108, 109, 110, 111, 112, 113, 154, 155, 156, 157, 50, 118, 119, 120, 121, 64, 59, 150, 151, 152, 153, 158, 159, 160, 161, 162, 163, 164, 165, 65, 196, 197, 198, 199, 200, 201, 202, 203, 204, 205, 206, 207, 208, 209, 210] (by decide +kernel) (by decide +kernel)
set_option maxRecDepth 20000 in
theorem gX3_perform_X1_writeAt : GoodIn wsX3_perform (wsV RX3 64 RX1 yX1_writeAt wsX1_writeAt) := goodIn_app (goodIn_of _ (by decide +kernel)) ggX3_perform_X1_writeAt
set_option maxRecDepth 20000 in
theorem ggX3_perform_X3_settle : GoodIn wsX3_perform wsX3_settle := goodIn_r _ [173, 174, 43, 2, 175, 176, 177, 178, 179, 180, 181, 182, 183, 45, 46, 47, 48, 49, 50, 51, 52, 53, 54, 55, 56, 57, 58, 59, 60, 61, 62, 63, 64, 65, 66, 67, 44, 184, 185, 186, 187, 188, 189, 211, 212, 213, 196, 197, 198, 199, 200, 201, 202, 203, 204, 205, 206, 207, 208, 209, 210] (by decide +kernel) (by decide +kernel)
set_option maxRecDepth 20000 in
theorem gX3_perform_X3_settle : GoodIn wsX3_perform (wsV RX3 47 RX3 yX3_settle wsX3_settle) := goodIn_app (goodIn_of _ (by decide +kernel)) ggX3_perform_X3_settle
set_option maxRecDepth 20000 in
theorem ggX3_giveBack_X3_startTrial : GoodIn wsX3_giveBack wsX3_startTrial := goodIn_r _ [6, 1, 7, 8, 9, 10, 11, 12, 13, 14, 15, 16, 17, 18, 19, 20, 21, 22, 23, 24, 25, 26, 27, 28, 29, 30, 31, 104, 105, 106, 107, 108, 109, 110, 111, 112, 113, 114, 115, 116, 117, 118, 119, 120, 121, 122, 123, 124] (by decide +kernel) (by decide +kernel)
set_option maxRecDepth 20000 in
theorem gX3_giveBack_X3_startTrial : GoodIn wsX3_giveBack (wsV RX3 40 RX3 yX3_startTrial wsX3_startTrial) := goodIn_app (goodIn_of _ (by decide +kernel)) ggX3_giveBack_X3_startTrial
set_option maxRecDepth 20000 in
theorem ggX3_giveBack_X1_giveBackAt : GoodIn wsX3_giveBack wsX1_giveBackAt := goodIn_r _ [35, 20, 24, 36, 37, 38, 11, 39, 19, 40, 5, 41, 42, 43, 44, 45, 46, 47, 48, 49, 50, 51, 52, 53, 54, 55, 56, 57, 21, 13, 58, 59, 60, 61, 27, 26, 62, 63, 64, 65, 66, 67, 68, 69, 70, 71, 72, 73, 74, 75, 76, 77, 78, 79, 80, 81, 14, 82, 83, 84, 85, 25, 86, 87, 88, 89, 110, 111, 112, 113, 114, 115, 116, 117, 118, 119, 120, 121, 122, 123, 124] (by decide +kernel) (by decide +kernel)
set_option maxRecDepth 20000 in
theorem gX3_giveBack_X1_giveBackAt : GoodIn wsX3_giveBack (wsV RX3 90 RX1 yX1_giveBackAt wsX1_giveBackAt) := goodIn_app (goodIn_of _ (by decide +kernel)) ggX3_giveBack_X1_giveBackAt
set_option maxRecDepth 20000 in
theorem ggX3_giveBack_X3_settle : GoodIn wsX3_giveBack wsX3_settle := goodIn_r _ [93, 94, 7, 1, 95, 96, 97, 98, 99, 100, 101, 102, 103, 9, 10, 11, 12, 13, 14, 15, 16, 17, 18, 19, 20, 21, 22, 23, 24, 25, 26, 27, 28, 29, 30, 31, 8, 104, 105, 106, 107, 108, 109, 125, 126, 127, 110, 111, 112, 113, 114, 115, 116, 117, 118, 119, 120, 121, 122, 123, 124] (by decide +kernel) (by decide +kernel)
set_option maxRecDepth 20000 in
theorem gX3_giveBack_X3_settle : GoodIn wsX3_giveBack (wsV RX3 47 RX3 yX3_settle wsX3_settle) := goodIn_app (goodIn_of _ (by decide +kernel)) ggX3_giveBack_X3_settle
set_option maxRecDepth 20000 in
theorem ggX3_giveUp_X3_isHead : GoodIn wsX3_giveUp wsX3_isHead := goodIn_r _ [6] (by decide +kernel) (by decide +kernel)
set_option maxRecDepth 20000 in
theorem gX3_giveUp_X3_isHead : GoodIn wsX3_giveUp (va_wsS RX3 50 yX3_isHead wsX3_isHead) := goodIn_app (goodIn_of _ (by decide +kernel)) ggX3_giveUp_X3_isHead
set_option maxRecDepth 20000 in
theorem ggX3_giveUp_X1_othersAreGivenUp : GoodIn wsX3_giveUp wsX1_othersAreGivenUp := goodIn_r _ [11, 12, 121, 122, 123, 124, 125, 126, 127, 128, 129, 130, 131, 132, 133, 134, 135] (by decide +kernel) (by decide +kernel)
set_option maxRecDepth 20000 in
theorem gX3_giveUp_X1_othersAreGivenUp : GoodIn wsX3_giveUp (wsV RX3 93 RX1 yX1_othersAreGivenUp wsX1_othersAreGivenUp) := goodIn_app (goodIn_of _ (by decide +kernel)) ggX3_giveUp_X1_othersAreGivenUp
set_option maxRecDepth 20000 in
theorem ggX3_giveUp_X1_isGivenUp : GoodIn wsX3_giveUp wsX1_isGivenUp := goodIn_r _ [16, 12, 121, 122, 123, 124, 125, 126, 127, 128, 129, 130, 131, 132, 133, 134, 135] (by decide +kernel) (by decide +kernel)
set_option maxRecDepth 20000 in
theorem gX3_giveUp_X1_isGivenUp : GoodIn wsX3_giveUp (wsV RX3 96 RX1 yX1_isGivenUp wsX1_isGivenUp) := goodIn_app (goodIn_of _ (by decide +kernel)) ggX3_giveUp_X1_isGivenUp
set_option maxRecDepth 20000 in
theorem ggX3_giveUp_X3_startTrial : GoodIn wsX3_giveUp wsX3_startTrial := goodIn_r _ [20, 2, 1, 21, 22, 23, 10, 24, 25, 26, 27, 28, 29, 30, 31, 12, 32, 33, 34, 35, 36, 37, 38, 39, 40, 41, 42, 115, 116, 117, 118, 119, 120, 121, 122, 123, 124, 125, 126, 127, 128, 129, 130, 131, 132, 133, 134, 135] (by decide +kernel) (by decide +kernel)
set_option maxRecDepth 20000 in
theorem gX3_giveUp_X3_startTrial : GoodIn wsX3_giveUp (wsV RX3 40 RX3 yX3_startTrial wsX3_startTrial) := goodIn_app (goodIn_of _ (by decide +kernel)) ggX3_giveUp_X3_startTrial
set_option maxRecDepth 20000 in
theorem ggX3_giveUp_X1_vacate : GoodIn wsX3_giveUp wsX1_vacate := goodIn_r _ [46, 40, 12, 35, 47, 48, 49, 10, 50, 31, 51, 5, 52, 53, 54, 55, 56, 57, 58, 59, 60, 61, 62, 63, 64, 65, 66, 67, 68, 69, 70, 71, 72, 73, 74, 75, 76, 36, 77, 78, 79, 80, 32, 25, 81, 82, 83, 84, 85, 86, 87, 88, 89, 90, 91, 92, 93, 94, 95, 96, 97, 98, 99, 100, 26, 121, 122, 123, 124, 125, 126, 127, 128, 129, 130, 131, 132, 133, 134, 135] (by decide +kernel) (by decide +kernel)
set_option maxRecDepth 20000 in
theorem gX3_giveUp_X1_vacate : GoodIn wsX3_giveUp (wsV RX3 99 RX1 yX1_vacate wsX1_vacate) := goodIn_app (goodIn_of _ (by decide +kernel)) ggX3_giveUp_X1_vacate
set_option maxRecDepth 20000 in
theorem ggX3_giveUp_X3_settle : GoodIn wsX3_giveUp wsX3_settle := goodIn_r _ [104, 105, 1, 2, 106, 107, 108, 109, 110, 111, 112, 113, 114, 22, 23, 10, 24, 25, 26, 27, 28, 29, 30, 31, 12, 32, 33, 34, 35, 36, 37, 38, 39, 40, 41, 42, 21, 115, 116, 117, 118, 119, 120, 136, 137, 138, 121, 122, 123, 124, 125, 126, 127, 128, 129, 130, 131, 132, 133, 134, 135] (by decide +kernel) (by decide +kernel)
set_option maxRecDepth 20000 in
theorem gX3_giveUp_X3_settle : GoodIn wsX3_giveUp (wsV RX3 47 RX3 yX3_settle wsX3_settle) := goodIn_app (goodIn_of _ (by decide +kernel)) ggX3_giveUp_X3_settle
set_option maxRecDepth 20000 in
theorem ggX3_undo_X2_states : GoodIn wsX3_undo wsX2_states := goodIn_r _ [7, 8, 45, 46, 47] (by decide +kernel) (by decide +kernel)
set_option maxRecDepth 20000 in
theorem gX3_undo_X2_states : GoodIn wsX3_undo (wsV RX3 108 RX2 yX2_states wsX2_states) := goodIn_app (goodIn_of _ (by decide +kernel)) ggX3_undo_X2_states
set_option maxRecDepth 20000 in
theorem ggX3_undo_X2_takeBack : GoodIn wsX3_undo wsX2_takeBack := goodIn_r _ [12, 8, 13, 14, 15, 16, 17, 18, 19, 20, 21, 22, 23, 24, 25, 26, 27, 28, 29, 30, 31, 32, 33, 34, 35, 36, 37, 38, 45, 46, 47, 48, 49, 50, 51, 52, 53, 54, 55, 56, 57, 58, 59, 60, 61, 62] (by decide +kernel) (by decide +kernel)
set_option maxRecDepth 20000 in
theorem gX3_undo_X2_takeBack : GoodIn wsX3_undo (wsV RX3 111 RX2 yX2_takeBack wsX2_takeBack) := goodIn_app (goodIn_of _ (by decide +kernel)) ggX3_undo_X2_takeBack
set_option maxRecDepth 20000 in
theorem ggX3_restore_X1_takeOver : GoodIn wsX3_restore wsX1_takeOver := goodIn_r _ [8, 9, 10, 11, 12, 13, 14, 15, 16, 17, 18, 19, 20, 21, 22, 23, 24, 25, 26, 27, 54, 55, 56, 57, 58, 59, 60, 61, 62, 63, 64, 65, 66, 67, 68] (by decide +kernel) (by decide +kernel)
set_option maxRecDepth 20000 in
theorem gX3_restore_X1_takeOver : GoodIn wsX3_restore (wsV RX3 115 RX1 yX1_takeOver wsX1_takeOver) := goodIn_app (goodIn_of _ (by decide +kernel)) ggX3_restore_X1_takeOver
set_option maxRecDepth 20000 in
theorem ggX3_restore_X1_stepsSoFar : GoodIn wsX3_restore wsX1_stepsSoFar := goodIn_r _ [31, 23, 54, 55, 56, 57, 58, 59, 60, 61, 62, 63, 64, 65, 66, 67, 68] (by decide +kernel) (by decide +kernel)
set_option maxRecDepth 20000 in
theorem gX3_restore_X1_stepsSoFar : GoodIn wsX3_restore (wsV RX3 118 RX1 yX1_stepsSoFar wsX1_stepsSoFar) := goodIn_app (goodIn_of _ (by decide +kernel)) ggX3_restore_X1_stepsSoFar
set_option maxRecDepth 20000 in
theorem ggX3_restore_X3_settle : GoodIn wsX3_restore wsX3_settle := goodIn_r _ [36, 37, 38, 2, 39, 40, 41, 42, 43, 44, 45, 46, 47, 5, 6, 7, 8, 9, 10, 11, 12, 13, 14, 15, 16, 17, 18, 19, 20, 21, 22, 23, 24, 25, 26, 27, 4, 48, 49, 50, 51, 52, 53, 69, 70, 71, 54, 55, 56, 57, 58, 59, 60, 61, 62, 63, 64, 65, 66, 67, 68] (by decide +kernel) (by decide +kernel)
set_option maxRecDepth 20000 in
theorem gX3_restore_X3_settle : GoodIn wsX3_restore (wsV RX3 47 RX3 yX3_settle wsX3_settle) := goodIn_app (goodIn_of _ (by decide +kernel)) ggX3_restore_X3_settle
set_option maxRecDepth 20000 in
theorem ggX3_address_X1_isAddress : GoodIn wsX3_address wsX1_isAddress := goodIn_r _ [6, 7, 8, 9, 10, 11, 12, 13, 14, 73, 74, 75, 76, 77, 78, 79, 80, 81, 82, 83, 84, 85, 86, 87] (by decide +kernel) (by decide +kernel)
set_option maxRecDepth 20000 in
theorem gX3_address_X1_isAddress : GoodIn wsX3_address (wsV RX3 67 RX1 yX1_isAddress wsX1_isAddress) := goodIn_app (goodIn_of _ (by decide +kernel)) ggX3_address_X1_isAddress
set_option maxRecDepth 20000 in
theorem ggX3_address_X1_tellAddress : GoodIn wsX3_address wsX1_tellAddress := goodIn_r _ [18, 19, 20, 21, 22, 23, 24, 5, 25, 26, 27, 28, 29, 30, 31, 32, 33, 13, 9, 14, 34, 35, 36, 37, 38, 39, 40, 41, 7, 42, 43, 11, 12, 44, 45, 46, 47, 48, 49, 50, 51, 52, 53, 54, 55, 56, 57, 58, 59, 60, 61, 62, 63, 64, 65, 66, 73, 74, 75, 76, 77, 78, 79, 80, 81, 82, 83, 84, 85, 86, 87] (by decide +kernel) (by decide +kernel)
set_option maxRecDepth 20000 in
theorem gX3_address_X1_tellAddress : GoodIn wsX3_address (wsV RX3 121 RX1 yX1_tellAddress wsX1_tellAddress) := goodIn_app (goodIn_of _ (by decide +kernel)) ggX3_address_X1_tellAddress
set_option maxRecDepth 20000 in
theorem ggX3_sector_X3_isSector : GoodIn wsX3_sector wsX3_isSector := goodIn_r _ [5] (by decide +kernel) (by decide +kernel)
set_option maxRecDepth 20000 in
theorem gX3_sector_X3_isSector : GoodIn wsX3_sector (va_wsS RX3 124 yX3_isSector wsX3_isSector) := goodIn_app (goodIn_of _ (by decide +kernel)) ggX3_sector_X3_isSector
set_option maxRecDepth 20000 in
theorem ggX3_sector_X1_tellSector : GoodIn wsX3_sector wsX1_tellSector := goodIn_r _ [10, 11, 12, 13, 14, 15, 9, 16, 17, 18, 19, 20, 21, 22, 23, 24, 25, 26, 27, 28, 29, 30, 3, 4, 5, 31, 32, 33, 34, 35, 36, 37, 38, 39, 46, 47, 48, 49, 50, 51, 52, 53, 54, 55, 56, 57, 58, 59, 60] (by decide +kernel) (by decide +kernel)
set_option maxRecDepth 20000 in
theorem gX3_sector_X1_tellSector : GoodIn wsX3_sector (wsV RX3 127 RX1 yX1_tellSector wsX1_tellSector) := goodIn_app (goodIn_of _ (by decide +kernel)) ggX3_sector_X1_tellSector
set_option maxRecDepth 20000 in
theorem ggX3_head_X3_isHead : GoodIn wsX3_head wsX3_isHead := goodIn_r _ [5] (by decide +kernel) (by decide +kernel)
set_option maxRecDepth 20000 in
theorem gX3_head_X3_isHead : GoodIn wsX3_head (va_wsS RX3 50 yX3_isHead wsX3_isHead) := goodIn_app (goodIn_of _ (by decide +kernel)) ggX3_head_X3_isHead
set_option maxRecDepth 20000 in
theorem ggX3_head_X1_tellHead : GoodIn wsX3_head wsX1_tellHead := goodIn_r _ [10, 11, 12, 13, 14, 15, 16, 17, 18, 9, 19, 20, 21, 22, 23, 24, 4, 25, 26, 27, 28, 29, 30, 31, 32, 33, 34, 35, 36, 37, 38, 39, 40, 41, 42, 43, 44, 45, 46, 47, 48, 49, 50, 51, 52, 53, 54, 55, 56, 57, 58, 59, 60, 61, 68, 69, 70, 71, 72, 73, 74, 75, 76, 77, 78, 79, 80, 81, 82] (by decide +kernel) (by decide +kernel)
set_option maxRecDepth 20000 in
theorem gX3_head_X1_tellHead : GoodIn wsX3_head (wsV RX3 130 RX1 yX1_tellHead wsX1_tellHead) := goodIn_app (goodIn_of _ (by decide +kernel)) ggX3_head_X1_tellHead
set_option maxRecDepth 20000 in
theorem ggX3_readsLeft_X1_readsUntilChange : GoodIn wsX3_readsLeft wsX1_readsUntilChange := goodIn_r _ [6, 7, 8, 9, 10, 11, 12, 13, 5, 14, 15, 16, 17, 18, 19, 20, 21, 22, 23, 24, 25, 26, 27, 28, 29, 30, 31, 32, 33, 34, 35, 36, 37, 38, 39, 40, 41, 42, 43, 44, 45, 46, 47, 48, 55, 56, 57, 58, 59, 60, 61, 62, 63, 64, 65, 66, 67, 68, 69] (by decide +kernel) (by decide +kernel)
set_option maxRecDepth 20000 in
theorem gX3_readsLeft_X1_readsUntilChange : GoodIn wsX3_readsLeft (wsV RX3 133 RX1 yX1_readsUntilChange wsX1_readsUntilChange) := goodIn_app (goodIn_of _ (by decide +kernel)) ggX3_readsLeft_X1_readsUntilChange
set_option maxRecDepth 20000 in
theorem ggX3_wouldLose_X3_isHead : GoodIn wsX3_wouldLose wsX3_isHead := goodIn_r _ [6] (by decide +kernel) (by decide +kernel)
set_option maxRecDepth 20000 in
theorem gX3_wouldLose_X3_isHead : GoodIn wsX3_wouldLose (va_wsS RX3 50 yX3_isHead wsX3_isHead) := goodIn_app (goodIn_of _ (by decide +kernel)) ggX3_wouldLose_X3_isHead
set_option maxRecDepth 20000 in
theorem ggX3_wouldLose_X1_isGivenUp : GoodIn wsX3_wouldLose wsX1_isGivenUp := goodIn_r _ [11, 12, 103, 104, 105, 106, 107, 108, 109, 110, 111, 112, 113, 114, 115, 116, 117] (by decide +kernel) (by decide +kernel)
set_option maxRecDepth 20000 in
theorem gX3_wouldLose_X1_isGivenUp : GoodIn wsX3_wouldLose (wsV RX3 96 RX1 yX1_isGivenUp wsX1_isGivenUp) := goodIn_app (goodIn_of _ (by decide +kernel)) ggX3_wouldLose_X1_isGivenUp
set_option maxRecDepth 20000 in
theorem ggX3_wouldLose_X3_startTrial : GoodIn wsX3_wouldLose wsX3_startTrial := goodIn_r _ [16, 2, 1, 17, 18, 19, 10, 20, 21, 22, 23, 24, 25, 26, 27, 12, 28, 29, 30, 31, 32, 33, 34, 35, 36, 37, 38, 97, 98, 99, 100, 101, 102, 103, 104, 105, 106, 107, 108, 109, 110, 111, 112, 113, 114, 115, 116, 117] (by decide +kernel) (by decide +kernel)
set_option maxRecDepth 20000 in
theorem gX3_wouldLose_X3_startTrial : GoodIn wsX3_wouldLose (wsV RX3 40 RX3 yX3_startTrial wsX3_startTrial) := goodIn_app (goodIn_of _ (by decide +kernel)) ggX3_wouldLose_X3_startTrial
set_option maxRecDepth 20000 in
theorem ggX3_wouldLose_X1_vacate : GoodIn wsX3_wouldLose wsX1_vacate := goodIn_r _ [42, 36, 12, 31, 43, 44, 45, 10, 46, 27, 47, 5, 48, 49, 50, 51, 52, 53, 54, 55, 56, 57, 58, 59, 60, 61, 62, 63, 64, 65, 66, 67, 68, 69, 70, 71, 72, 32, 73, 74, 75, 76, 28, 21, 77, 78, 79, 80, 81, 82, 83, 84, 85, 86, 87, 88, 89, 90, 91, 92, 93, 94, 95, 96, 22, 103, 104, 105, 106, 107, 108, 109, 110, 111, 112, 113, 114, 115, 116, 117] (by decide +kernel) (by decide +kernel)
set_option maxRecDepth 20000 in
theorem gX3_wouldLose_X1_vacate : GoodIn wsX3_wouldLose (wsV RX3 99 RX1 yX1_vacate wsX1_vacate) := goodIn_app (goodIn_of _ (by decide +kernel)) ggX3_wouldLose_X1_vacate
set_option maxRecDepth 20000 in
theorem ggX3_worst_X1_addressOfRank : GoodIn wsX3_worst wsX1_addressOfRank := goodIn_r _ [6, 7, 8, 9, 5, 10, 11, 12, 13, 14, 15, 16, 17, 18, 19, 20, 21, 22, 23, 24, 25, 26, 27, 28, 29, 30, 31, 32, 39, 40, 41, 42, 43, 44, 45, 46, 47, 48, 49, 50, 51, 52, 53] (by decide +kernel) (by decide +kernel)
set_option maxRecDepth 20000 in
theorem gX3_worst_X1_addressOfRank : GoodIn wsX3_worst (wsV RX3 136 RX1 yX1_addressOfRank wsX1_addressOfRank) := goodIn_app (goodIn_of _ (by decide +kernel)) ggX3_worst_X1_addressOfRank
