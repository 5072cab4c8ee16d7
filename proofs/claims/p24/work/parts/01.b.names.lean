set_option maxRecDepth 20000 in
theorem ggX0_parse_X0_takeCommand : GoodIn wsX0_parse wsX0_takeCommand := goodIn_r _ [7, 8, 9, 10, 6, 11, 1, 12, 13, 14, 15, 16, 17, 18, 19, 20, 21, 22, 23, 24, 25, 26, 27, 28, 29, 2, 30, 31, 32, 33, 34, 35, 36, 37] (by decide +kernel) (by decide +kernel)
set_option maxRecDepth 20000 in
theorem gX0_parse_X0_takeCommand : GoodIn wsX0_parse (wsV RX0 31 RX0 yX0_takeCommand wsX0_takeCommand) := goodIn_app (goodIn_of _ (by decide +kernel)) ggX0_parse_X0_takeCommand
set_option maxRecDepth 20000 in
theorem ggX0_parse_X0_peek : GoodIn wsX0_parse wsX0_peek := goodIn_r _ [15, 1, 16, 17, 32, 33, 34, 35, 36, 37] (by decide +kernel) (by decide +kernel)
set_option maxRecDepth 20000 in
theorem gX0_parse_X0_peek : GoodIn wsX0_parse (wsV RX0 35 RX0 yX0_peek wsX0_peek) := goodIn_app (goodIn_of _ (by decide +kernel)) ggX0_parse_X0_peek
set_option maxRecDepth 20000 in
theorem ggX0_parse_X0_take : GoodIn wsX0_parse wsX0_take := goodIn_r _ [11, 1, 12, 13, 14, 6, 15, 16, 17, 32, 33, 34, 35, 36, 37] (by decide +kernel) (by decide +kernel)
set_option maxRecDepth 20000 in
theorem gX0_parse_X0_take : GoodIn wsX0_parse (wsV RX0 39 RX0 yX0_take wsX0_take) := goodIn_app (goodIn_of _ (by decide +kernel)) ggX0_parse_X0_take
set_option maxRecDepth 20000 in
theorem ggX0_takeCommand_X0_take : GoodIn wsX0_takeCommand wsX0_take := goodIn_r _ [5, 6, 7, 8, 9, 4, 10, 11, 12, 28, 29, 30, 31, 32, 33] (by decide +kernel) (by decide +kernel)
set_option maxRecDepth 20000 in
theorem gX0_takeCommand_X0_take : GoodIn wsX0_takeCommand (wsV RX0 39 RX0 yX0_take wsX0_take) := goodIn_app (goodIn_of _ (by decide +kernel)) ggX0_takeCommand_X0_take
set_option maxRecDepth 20000 in
theorem ggX0_takeCommand_X0_takeNumber : GoodIn wsX0_takeCommand wsX0_takeNumber := goodIn_r _ [16, 6, 11, 17, 18, 19, 4, 20, 12, 28, 29, 30, 31, 32, 33] (by decide +kernel) (by decide +kernel)
set_option maxRecDepth 20000 in
theorem gX0_takeCommand_X0_takeNumber : GoodIn wsX0_takeCommand (wsV RX0 43 RX0 yX0_takeNumber wsX0_takeNumber) := goodIn_app (goodIn_of _ (by decide +kernel)) ggX0_takeCommand_X0_takeNumber
set_option maxRecDepth 20000 in
theorem ggX0_takeCommand_X0_addCommand : GoodIn wsX0_takeCommand wsX0_addCommand := goodIn_r _ [24, 25, 26, 27, 28, 29, 30, 31, 32, 33] (by decide +kernel) (by decide +kernel)
set_option maxRecDepth 20000 in
theorem gX0_takeCommand_X0_addCommand : GoodIn wsX0_takeCommand (wsV RX0 47 RX0 yX0_addCommand wsX0_addCommand) := goodIn_app (goodIn_of _ (by decide +kernel)) ggX0_takeCommand_X0_addCommand
set_option maxRecDepth 20000 in
theorem ggX0_takeNumber_X0_digitAt : GoodIn wsX0_takeNumber wsX0_digitAt := goodIn_r _ [7, 2, 8, 9, 10, 11, 12, 13, 14] (by decide +kernel) (by decide +kernel)
set_option maxRecDepth 20000 in
theorem gX0_takeNumber_X0_digitAt : GoodIn wsX0_takeNumber (wsV RX0 51 RX0 yX0_digitAt wsX0_digitAt) := goodIn_app (goodIn_of _ (by decide +kernel)) ggX0_takeNumber_X0_digitAt
set_option maxRecDepth 20000 in
theorem ggX0_take_X0_peek : GoodIn wsX0_take wsX0_peek := goodIn_r _ [6, 1, 7, 8, 9, 10, 11, 12, 13, 14] (by decide +kernel) (by decide +kernel)
set_option maxRecDepth 20000 in
theorem gX0_take_X0_peek : GoodIn wsX0_take (wsV RX0 35 RX0 yX0_peek wsX0_peek) := goodIn_app (goodIn_of _ (by decide +kernel)) ggX0_take_X0_peek
set_option maxRecDepth 20000 in
theorem ggX1_init_X1_divide : GoodIn wsX1_init wsX1_divide := goodIn_r _ [25, 7, 13, 14, 26, 27, 28, 24, 29, 30, 31, 32, 33, 34, 35, 36, 37, 38, 39, 40, 41, 42, 43, 44, 45, 46, 47, 48, 49, 50, 51] (by decide +kernel) (by decide +kernel)
set_option maxRecDepth 20000 in
theorem gX1_init_X1_divide : GoodIn wsX1_init (wsV RX1 59 RX1 yX1_divide wsX1_divide) := goodIn_app (goodIn_of _ (by decide +kernel)) ggX1_init_X1_divide
set_option maxRecDepth 20000 in
theorem ggX1_divide_X1_isAddress : GoodIn wsX1_divide wsX1_isAddress := goodIn_r _ [8, 1, 9, 10, 11, 12, 13, 14, 15, 16, 17, 18, 19, 20, 21, 22, 23, 24, 25, 26, 27, 28, 29, 30] (by decide +kernel) (by decide +kernel)
set_option maxRecDepth 20000 in
theorem gX1_divide_X1_isAddress : GoodIn wsX1_divide (wsV RX1 69 RX1 yX1_isAddress wsX1_isAddress) := goodIn_app (goodIn_of _ (by decide +kernel)) ggX1_divide_X1_isAddress
set_option maxRecDepth 20000 in
theorem ggX1_isAddress_X3_isSector : GoodIn wsX1_isAddress wsX3_isSector := goodIn_r _ [4] (by decide +kernel) (by decide +kernel)
set_option maxRecDepth 20000 in
theorem gX1_isAddress_X3_isSector_n73 : GoodIn wsX1_isAddress (wsX3_isSector) := ggX1_isAddress_X3_isSector
set_option maxRecDepth 20000 in
theorem ggX1_isAddress_X3_placeOf : GoodIn wsX1_isAddress wsX3_placeOf := goodIn_r _ [6] (by decide +kernel) (by decide +kernel)
set_option maxRecDepth 20000 in
theorem gX1_isAddress_X3_placeOf_n76 : GoodIn wsX1_isAddress (wsX3_placeOf) := ggX1_isAddress_X3_placeOf
set_option maxRecDepth 20000 in
theorem ggX1_isAddress_X3_headOf : GoodIn wsX1_isAddress wsX3_headOf := goodIn_r _ [8] (by decide +kernel) (by decide +kernel)
set_option maxRecDepth 20000 in
theorem gX1_isAddress_X3_headOf_n80 : GoodIn wsX1_isAddress (wsX3_headOf) := ggX1_isAddress_X3_headOf
set_option maxRecDepth 20000 in
theorem ggX1_isLongWay_X1_isLost : GoodIn wsX1_isLongWay wsX1_isLost := goodIn_r _ [6, 1, 7, 8, 9, 10, 11, 12, 13, 14, 15, 16, 17, 18, 19, 20, 21] (by decide +kernel) (by decide +kernel)
set_option maxRecDepth 20000 in
theorem gX1_isLongWay_X1_isLost : GoodIn wsX1_isLongWay (wsV RX1 83 RX1 yX1_isLost wsX1_isLost) := goodIn_app (goodIn_of _ (by decide +kernel)) ggX1_isLongWay_X1_isLost
set_option maxRecDepth 20000 in
theorem ggX1_gradeOf_X1_isGood : GoodIn wsX1_gradeOf wsX1_isGood := goodIn_r _ [5, 6, 7, 12, 13, 14, 15, 16, 17, 18, 19, 20, 21, 22, 23, 24, 25, 26] (by decide +kernel) (by decide +kernel)
set_option maxRecDepth 20000 in
theorem gX1_gradeOf_X1_isGood : GoodIn wsX1_gradeOf (wsV RX1 86 RX1 yX1_isGood wsX1_isGood) := goodIn_app (goodIn_of _ (by decide +kernel)) ggX1_gradeOf_X1_isGood
set_option maxRecDepth 20000 in
theorem ggX1_gradeOf_X1_isBad : GoodIn wsX1_gradeOf wsX1_isBad := goodIn_r _ [11, 6, 7, 12, 13, 14, 15, 16, 17, 18, 19, 20, 21, 22, 23, 24, 25, 26] (by decide +kernel) (by decide +kernel)
set_option maxRecDepth 20000 in
theorem gX1_gradeOf_X1_isBad : GoodIn wsX1_gradeOf (wsV RX1 89 RX1 yX1_isBad wsX1_isBad) := goodIn_app (goodIn_of _ (by decide +kernel)) ggX1_gradeOf_X1_isBad
set_option maxRecDepth 20000 in
theorem ggX1_isFree_X3_headOf : GoodIn wsX1_isFree wsX3_headOf := goodIn_r _ [6] (by decide +kernel) (by decide +kernel)
set_option maxRecDepth 20000 in
theorem gX1_isFree_X3_headOf_n80 : GoodIn wsX1_isFree (wsX3_headOf) := ggX1_isFree_X3_headOf
set_option maxRecDepth 20000 in
theorem ggX1_isFree_X3_placeOf : GoodIn wsX1_isFree wsX3_placeOf := goodIn_r _ [8] (by decide +kernel) (by decide +kernel)
set_option maxRecDepth 20000 in
theorem gX1_isFree_X3_placeOf_n76 : GoodIn wsX1_isFree (wsX3_placeOf) := ggX1_isFree_X3_placeOf
set_option maxRecDepth 20000 in
theorem ggX1_isFree_X1_isGood : GoodIn wsX1_isFree wsX1_isGood := goodIn_r _ [13, 14, 15, 16, 17, 18, 19, 20, 21, 22, 23, 24, 25, 26, 27, 28, 29, 30] (by decide +kernel) (by decide +kernel)
set_option maxRecDepth 20000 in
theorem gX1_isFree_X1_isGood : GoodIn wsX1_isFree (wsV RX1 86 RX1 yX1_isGood wsX1_isGood) := goodIn_app (goodIn_of _ (by decide +kernel)) ggX1_isFree_X1_isGood
set_option maxRecDepth 20000 in
theorem ggX1_freeOf_X1_isFree : GoodIn wsX1_freeOf wsX1_isFree := goodIn_r _ [5, 6, 7, 8, 9, 10, 11, 12, 13, 14, 15, 16, 4, 17, 18, 19, 20, 21, 22, 23, 24, 25, 26, 27, 28, 29, 30, 31, 32, 33, 34] (by decide +kernel) (by decide +kernel)
set_option maxRecDepth 20000 in
theorem gX1_freeOf_X1_isFree : GoodIn wsX1_freeOf (wsV RX1 92 RX1 yX1_isFree wsX1_isFree) := goodIn_app (goodIn_of _ (by decide +kernel)) ggX1_freeOf_X1_isFree
set_option maxRecDepth 20000 in
theorem ggX1_firstFreeOf_X1_isFree : GoodIn wsX1_firstFreeOf wsX1_isFree := goodIn_r _ [5, 6, 7, 8, 9, 10, 11, 12, 13, 14, 15, 16, 4, 17, 18, 19, 20, 21, 22, 23, 24, 25, 26, 27, 28, 29, 30, 31, 32, 33, 34] (by decide +kernel) (by decide +kernel)
set_option maxRecDepth 20000 in
theorem gX1_firstFreeOf_X1_isFree : GoodIn wsX1_firstFreeOf (wsV RX1 92 RX1 yX1_isFree wsX1_isFree) := goodIn_app (goodIn_of _ (by decide +kernel)) ggX1_firstFreeOf_X1_isFree
set_option maxRecDepth 20000 in
theorem ggX1_lendableTo_X3_headOf : GoodIn wsX1_lendableTo wsX3_headOf := goodIn_r _ [3] (by decide +kernel) (by decide +kernel)
set_option maxRecDepth 20000 in
theorem gX1_lendableTo_X3_headOf_n80 : GoodIn wsX1_lendableTo (wsX3_headOf) := ggX1_lendableTo_X3_headOf
set_option maxRecDepth 20000 in
theorem ggX1_lendableTo_X1_firstFreeOf : GoodIn wsX1_lendableTo wsX1_firstFreeOf := goodIn_r _ [8, 9, 10, 11, 7, 12, 13, 14, 15, 1, 2, 3, 16, 17, 18, 19, 20, 21, 22, 23, 28, 29, 30, 31, 32, 33, 34, 35, 36, 37, 38, 39, 40, 41, 42] (by decide +kernel) (by decide +kernel)
set_option maxRecDepth 20000 in
theorem gX1_lendableTo_X1_firstFreeOf : GoodIn wsX1_lendableTo (wsV RX1 95 RX1 yX1_firstFreeOf wsX1_firstFreeOf) := goodIn_app (goodIn_of _ (by decide +kernel)) ggX1_lendableTo_X1_firstFreeOf
set_option maxRecDepth 20000 in
theorem ggX1_lendableTo_X1_freeOf : GoodIn wsX1_lendableTo wsX1_freeOf := goodIn_r _ [27, 9, 10, 11, 7, 12, 13, 14, 15, 1, 2, 3, 16, 17, 18, 19, 20, 21, 22, 23, 28, 29, 30, 31, 32, 33, 34, 35, 36, 37, 38, 39, 40, 41, 42] (by decide +kernel) (by decide +kernel)
set_option maxRecDepth 20000 in
theorem gX1_lendableTo_X1_freeOf : GoodIn wsX1_lendableTo (wsV RX1 98 RX1 yX1_freeOf wsX1_freeOf) := goodIn_app (goodIn_of _ (by decide +kernel)) ggX1_lendableTo_X1_freeOf
set_option maxRecDepth 20000 in
theorem ggX1_stepsTo_X3_headOf : GoodIn wsX1_stepsTo wsX3_headOf := goodIn_r _ [6] (by decide +kernel) (by decide +kernel)
set_option maxRecDepth 20000 in
theorem gX1_stepsTo_X3_headOf_n80 : GoodIn wsX1_stepsTo (wsX3_headOf) := ggX1_stepsTo_X3_headOf
set_option maxRecDepth 20000 in
theorem ggX1_stepsTo_X3_stepsBetween : GoodIn wsX1_stepsTo wsX3_stepsBetween := goodIn_r _ [8, 9, 10, 11, 12, 13, 14, 5, 15, 16, 4, 6] (by decide +kernel) (by decide +kernel)
set_option maxRecDepth 20000 in
theorem gX1_stepsTo_X3_stepsBetween_n101 : GoodIn wsX1_stepsTo (wsX3_stepsBetween) := ggX1_stepsTo_X3_stepsBetween
set_option maxRecDepth 20000 in
theorem ggX1_readAt_X1_isAddress : GoodIn wsX1_readAt wsX1_isAddress := goodIn_r _ [8, 9, 10, 11, 12, 13, 14, 15, 16, 99, 100, 101, 102, 103, 104, 105, 106, 107, 108, 109, 110, 111, 112, 113] (by decide +kernel) (by decide +kernel)
set_option maxRecDepth 20000 in
theorem gX1_readAt_X1_isAddress : GoodIn wsX1_readAt (wsV RX1 69 RX1 yX1_isAddress wsX1_isAddress) := goodIn_app (goodIn_of _ (by decide +kernel)) ggX1_readAt_X1_isAddress
set_option maxRecDepth 20000 in
theorem ggX1_readAt_X1_isLost : GoodIn wsX1_readAt wsX1_isLost := goodIn_r _ [20, 1, 99, 100, 101, 102, 103, 104, 105, 106, 107, 108, 109, 110, 111, 112, 113] (by decide +kernel) (by decide +kernel)
set_option maxRecDepth 20000 in
theorem gX1_readAt_X1_isLost : GoodIn wsX1_readAt (wsV RX1 83 RX1 yX1_isLost wsX1_isLost) := goodIn_app (goodIn_of _ (by decide +kernel)) ggX1_readAt_X1_isLost
set_option maxRecDepth 20000 in
theorem ggX1_readAt_X1_goTo : GoodIn wsX1_readAt wsX1_goTo := goodIn_r _ [24, 25, 1, 26, 27, 28, 29, 7, 30, 31, 15, 11, 16, 32, 33, 34, 35, 36, 37, 38, 13, 14, 39, 99, 100, 101, 102, 103, 104, 105, 106, 107, 108, 109, 110, 111, 112, 113] (by decide +kernel) (by decide +kernel)
set_option maxRecDepth 20000 in
theorem gX1_readAt_X1_goTo : GoodIn wsX1_readAt (wsV RX1 108 RX1 yX1_goTo wsX1_goTo) := goodIn_app (goodIn_of _ (by decide +kernel)) ggX1_readAt_X1_goTo
set_option maxRecDepth 20000 in
theorem ggX1_readAt_X1_wearByReading : GoodIn wsX1_readAt wsX1_wearByReading := goodIn_r _ [43, 44, 45, 15, 11, 16, 99, 100, 101, 102, 103, 104, 105, 106, 107, 108, 109, 110, 111, 112, 113] (by decide +kernel) (by decide +kernel)
set_option maxRecDepth 20000 in
theorem gX1_readAt_X1_wearByReading : GoodIn wsX1_readAt (wsV RX1 112 RX1 yX1_wearByReading wsX1_wearByReading) := goodIn_app (goodIn_of _ (by decide +kernel)) ggX1_readAt_X1_wearByReading
set_option maxRecDepth 20000 in
theorem ggX1_readAt_X1_lookAt : GoodIn wsX1_readAt wsX1_lookAt := goodIn_r _ [49, 1, 50, 51, 52, 53, 54, 7, 55, 44, 56, 57, 58, 59, 60, 15, 11, 16, 61, 62, 63, 64, 65, 66, 67, 68, 9, 69, 31, 13, 14, 70, 71, 72, 73, 74, 75, 76, 77, 78, 79, 80, 81, 17, 18, 19, 20, 82, 83, 84, 85, 25, 26, 32, 33, 34, 35, 36, 37, 38, 39, 86, 87, 88, 89, 45, 90, 91, 92, 93, 94, 95, 96, 97, 98, 99, 100, 101, 102, 103, 104, 105, 106, 107, 108, 109, 110, 111, 112, 113] (by decide +kernel) (by decide +kernel)
set_option maxRecDepth 20000 in
theorem gX1_readAt_X1_lookAt : GoodIn wsX1_readAt (wsV RX1 115 RX1 yX1_lookAt wsX1_lookAt) := goodIn_app (goodIn_of _ (by decide +kernel)) ggX1_readAt_X1_lookAt
set_option maxRecDepth 20000 in
theorem ggX1_writeAt_X1_isAddress : GoodIn wsX1_writeAt wsX1_isAddress := goodIn_r _ [8, 9, 10, 11, 12, 13, 14, 15, 16, 95, 96, 97, 98, 99, 100, 101, 102, 103, 104, 105, 106, 107, 108, 109] (by decide +kernel) (by decide +kernel)
set_option maxRecDepth 20000 in
theorem gX1_writeAt_X1_isAddress : GoodIn wsX1_writeAt (wsV RX1 69 RX1 yX1_isAddress wsX1_isAddress) := goodIn_app (goodIn_of _ (by decide +kernel)) ggX1_writeAt_X1_isAddress
set_option maxRecDepth 20000 in
theorem ggX1_writeAt_X1_isLost : GoodIn wsX1_writeAt wsX1_isLost := goodIn_r _ [20, 1, 95, 96, 97, 98, 99, 100, 101, 102, 103, 104, 105, 106, 107, 108, 109] (by decide +kernel) (by decide +kernel)
set_option maxRecDepth 20000 in
theorem gX1_writeAt_X1_isLost : GoodIn wsX1_writeAt (wsV RX1 83 RX1 yX1_isLost wsX1_isLost) := goodIn_app (goodIn_of _ (by decide +kernel)) ggX1_writeAt_X1_isLost
set_option maxRecDepth 20000 in
theorem ggX1_writeAt_X1_lendableTo : GoodIn wsX1_writeAt wsX1_lendableTo := goodIn_r _ [24, 15, 11, 16, 25, 26, 27, 7, 28, 29, 30, 31, 32, 9, 33, 34, 13, 14, 35, 36, 37, 38, 39, 40, 41, 42, 43, 44, 95, 96, 97, 98, 99, 100, 101, 102, 103, 104, 105, 106, 107, 108, 109] (by decide +kernel) (by decide +kernel)
set_option maxRecDepth 20000 in
theorem gX1_writeAt_X1_lendableTo : GoodIn wsX1_writeAt (wsV RX1 118 RX1 yX1_lendableTo wsX1_lendableTo) := goodIn_app (goodIn_of _ (by decide +kernel)) ggX1_writeAt_X1_lendableTo
set_option maxRecDepth 20000 in
theorem ggX1_writeAt_X1_lend : GoodIn wsX1_writeAt wsX1_lend := goodIn_r _ [48, 1, 33, 49, 50, 51, 7, 52, 17, 18, 19, 20, 95, 96, 97, 98, 99, 100, 101, 102, 103, 104, 105, 106, 107, 108, 109] (by decide +kernel) (by decide +kernel)
set_option maxRecDepth 20000 in
theorem gX1_writeAt_X1_lend : GoodIn wsX1_writeAt (wsV RX1 121 RX1 yX1_lend wsX1_lend) := goodIn_app (goodIn_of _ (by decide +kernel)) ggX1_writeAt_X1_lend
set_option maxRecDepth 20000 in
theorem ggX1_writeAt_X1_goTo : GoodIn wsX1_writeAt wsX1_goTo := goodIn_r _ [56, 57, 1, 58, 59, 60, 61, 7, 62, 34, 15, 11, 16, 63, 64, 65, 66, 67, 68, 69, 13, 14, 70, 95, 96, 97, 98, 99, 100, 101, 102, 103, 104, 105, 106, 107, 108, 109] (by decide +kernel) (by decide +kernel)
set_option maxRecDepth 20000 in
theorem gX1_writeAt_X1_goTo : GoodIn wsX1_writeAt (wsV RX1 108 RX1 yX1_goTo wsX1_goTo) := goodIn_app (goodIn_of _ (by decide +kernel)) ggX1_writeAt_X1_goTo
set_option maxRecDepth 20000 in
theorem ggX1_writeAt_X1_wearByWriting : GoodIn wsX1_writeAt wsX1_wearByWriting := goodIn_r _ [74, 39, 75, 15, 11, 16, 95, 96, 97, 98, 99, 100, 101, 102, 103, 104, 105, 106, 107, 108, 109] (by decide +kernel) (by decide +kernel)
set_option maxRecDepth 20000 in
theorem gX1_writeAt_X1_wearByWriting : GoodIn wsX1_writeAt (wsV RX1 124 RX1 yX1_wearByWriting wsX1_wearByWriting) := goodIn_app (goodIn_of _ (by decide +kernel)) ggX1_writeAt_X1_wearByWriting
set_option maxRecDepth 20000 in
theorem ggX1_writeAt_X1_lookAt : GoodIn wsX1_writeAt wsX1_lookAt := goodIn_r _ [79, 1, 80, 81, 35, 36, 37, 7, 38, 39, 40, 21, 22, 23, 24, 15, 11, 16, 25, 26, 27, 28, 29, 30, 31, 32, 9, 33, 34, 13, 14, 41, 42, 43, 44, 45, 46, 47, 48, 49, 50, 51, 52, 17, 18, 19, 20, 82, 83, 84, 85, 57, 58, 63, 64, 65, 66, 67, 68, 69, 70, 71, 72, 73, 74, 75, 86, 87, 88, 89, 90, 91, 92, 93, 94, 95, 96, 97, 98, 99, 100, 101, 102, 103, 104, 105, 106, 107, 108, 109] (by decide +kernel) (by decide +kernel)
set_option maxRecDepth 20000 in
theorem gX1_writeAt_X1_lookAt : GoodIn wsX1_writeAt (wsV RX1 115 RX1 yX1_lookAt wsX1_lookAt) := goodIn_app (goodIn_of _ (by decide +kernel)) ggX1_writeAt_X1_lookAt
set_option maxRecDepth 20000 in
theorem ggX1_copyRow_X1_readAt : GoodIn wsX1_copyRow wsX1_readAt := goodIn_r _ [5, 6, 7, 8, 9, 10, 11, 4, 12, 13, 14, 15, 16, 17, 18, 19, 20, 21, 22, 23, 24, 25, 26, 27, 28, 29, 30, 31, 32, 33, 34, 35, 36, 37, 38, 39, 40, 41, 42, 43, 44, 45, 46, 47, 48, 49, 50, 51, 52, 53, 54, 55, 56, 57, 58, 59, 60, 61, 62, 63, 64, 65, 66, 67, 68, 69, 70, 71, 72, 73, 74, 75, 76, 77, 78, 79, 80, 81, 82, 83, 84, 85, 86, 87, 88, 89, 90, 91, 92, 93, 94, 95, 96, 97, 98, 99, 100, 101, 102, 108, 109, 110, 111, 112, 113, 114, 115, 116, 117, 118, 119, 120, 121, 122] (by decide +kernel) (by decide +kernel)
set_option maxRecDepth 20000 in
theorem gX1_copyRow_X1_readAt : GoodIn wsX1_copyRow (wsV RX1 127 RX1 yX1_readAt wsX1_readAt) := goodIn_app (goodIn_of _ (by decide +kernel)) ggX1_copyRow_X1_readAt
set_option maxRecDepth 20000 in
theorem ggX1_copyRow_X1_writeAt : GoodIn wsX1_copyRow wsX1_writeAt := goodIn_r _ [106, 6, 8, 107, 9, 10, 11, 4, 12, 13, 14, 15, 16, 17, 18, 19, 20, 21, 22, 23, 24, 61, 62, 63, 64, 65, 66, 67, 68, 69, 70, 71, 72, 73, 35, 56, 57, 58, 59, 48, 60, 74, 75, 76, 77, 78, 79, 80, 81, 82, 83, 84, 85, 25, 26, 27, 28, 29, 30, 31, 32, 33, 34, 36, 37, 38, 39, 40, 41, 42, 43, 90, 91, 92, 93, 49, 50, 51, 52, 53, 54, 55, 86, 87, 88, 89, 94, 95, 96, 97, 98, 99, 100, 101, 102, 108, 109, 110, 111, 112, 113, 114, 115, 116, 117, 118, 119, 120, 121, 122] (by decide +kernel) (by decide +kernel)
set_option maxRecDepth 20000 in
theorem gX1_copyRow_X1_writeAt : GoodIn wsX1_copyRow (wsV RX1 130 RX1 yX1_writeAt wsX1_writeAt) := goodIn_app (goodIn_of _ (by decide +kernel)) ggX1_copyRow_X1_writeAt
set_option maxRecDepth 20000 in
theorem ggX1_testHead_X1_lostOf : GoodIn wsX1_testHead wsX1_lostOf := goodIn_r _ [7, 1, 8, 9, 10, 6, 11, 12, 107, 108, 109, 110, 111, 112, 113, 114, 115, 116, 117, 118, 119, 120, 121] (by decide +kernel) (by decide +kernel)
set_option maxRecDepth 20000 in
theorem gX1_testHead_X1_lostOf : GoodIn wsX1_testHead (wsV RX1 133 RX1 yX1_lostOf wsX1_lostOf) := goodIn_app (goodIn_of _ (by decide +kernel)) ggX1_testHead_X1_lostOf
set_option maxRecDepth 20000 in
theorem ggX1_testHead_X1_readAt : GoodIn wsX1_testHead wsX1_readAt := goodIn_r _ [16, 12, 17, 18, 19, 20, 21, 6, 22, 1, 23, 24, 25, 26, 27, 28, 29, 8, 9, 10, 11, 30, 31, 32, 33, 34, 35, 36, 37, 38, 39, 40, 41, 42, 43, 44, 45, 46, 47, 48, 49, 50, 51, 52, 53, 54, 55, 56, 57, 58, 2, 59, 60, 61, 62, 63, 64, 65, 66, 67, 68, 69, 70, 71, 72, 73, 74, 75, 76, 77, 78, 79, 80, 81, 82, 83, 84, 85, 86, 87, 88, 89, 90, 91, 92, 93, 94, 95, 96, 97, 98, 99, 100, 101, 102, 103, 104, 105, 106, 107, 108, 109, 110, 111, 112, 113, 114, 115, 116, 117, 118, 119, 120, 121] (by decide +kernel) (by decide +kernel)
set_option maxRecDepth 20000 in
theorem gX1_testHead_X1_readAt : GoodIn wsX1_testHead (wsV RX1 127 RX1 yX1_readAt wsX1_readAt) := goodIn_app (goodIn_of _ (by decide +kernel)) ggX1_testHead_X1_readAt
set_option maxRecDepth 20000 in
theorem ggX1_lookAt_X1_isGood : GoodIn wsX1_lookAt wsX1_isGood := goodIn_r _ [8, 9, 10, 75, 76, 77, 78, 79, 80, 81, 82, 83, 84, 85, 86, 87, 88, 89] (by decide +kernel) (by decide +kernel)
set_option maxRecDepth 20000 in
theorem gX1_lookAt_X1_isGood : GoodIn wsX1_lookAt (wsV RX1 86 RX1 yX1_isGood wsX1_isGood) := goodIn_app (goodIn_of _ (by decide +kernel)) ggX1_lookAt_X1_isGood
set_option maxRecDepth 20000 in
theorem ggX1_lookAt_X1_lendableTo : GoodIn wsX1_lookAt wsX1_lendableTo := goodIn_r _ [14, 15, 16, 17, 18, 19, 20, 7, 21, 22, 23, 24, 25, 26, 27, 28, 29, 30, 4, 5, 6, 8, 9, 10, 31, 32, 33, 34, 75, 76, 77, 78, 79, 80, 81, 82, 83, 84, 85, 86, 87, 88, 89] (by decide +kernel) (by decide +kernel)
set_option maxRecDepth 20000 in
theorem gX1_lookAt_X1_lendableTo : GoodIn wsX1_lookAt (wsV RX1 118 RX1 yX1_lendableTo wsX1_lendableTo) := goodIn_app (goodIn_of _ (by decide +kernel)) ggX1_lookAt_X1_lendableTo
set_option maxRecDepth 20000 in
theorem ggX1_lookAt_X1_lend : GoodIn wsX1_lookAt wsX1_lend := goodIn_r _ [38, 1, 27, 39, 40, 41, 7, 42, 43, 44, 45, 46, 75, 76, 77, 78, 79, 80, 81, 82, 83, 84, 85, 86, 87, 88, 89] (by decide +kernel) (by decide +kernel)
set_option maxRecDepth 20000 in
theorem gX1_lookAt_X1_lend : GoodIn wsX1_lookAt (wsV RX1 121 RX1 yX1_lend wsX1_lend) := goodIn_app (goodIn_of _ (by decide +kernel)) ggX1_lookAt_X1_lend
set_option maxRecDepth 20000 in
theorem ggX1_lookAt_X1_moveTo : GoodIn wsX1_lookAt wsX1_moveTo := goodIn_r _ [50, 51, 52, 53, 16, 54, 55, 56, 57, 58, 59, 29, 30, 60, 15, 17, 75, 76, 77, 78, 79, 80, 81, 82, 83, 84, 85, 86, 87, 88, 89] (by decide +kernel) (by decide +kernel)
set_option maxRecDepth 20000 in
theorem gX1_lookAt_X1_moveTo : GoodIn wsX1_lookAt (wsV RX1 136 RX1 yX1_moveTo wsX1_moveTo) := goodIn_app (goodIn_of _ (by decide +kernel)) ggX1_lookAt_X1_moveTo
set_option maxRecDepth 20000 in
theorem ggX1_lookAt_X1_wearByWriting : GoodIn wsX1_lookAt wsX1_wearByWriting := goodIn_r _ [64, 9, 65, 15, 16, 17, 75, 76, 77, 78, 79, 80, 81, 82, 83, 84, 85, 86, 87, 88, 89] (by decide +kernel) (by decide +kernel)
set_option maxRecDepth 20000 in
theorem gX1_lookAt_X1_wearByWriting : GoodIn wsX1_lookAt (wsV RX1 124 RX1 yX1_wearByWriting wsX1_wearByWriting) := goodIn_app (goodIn_of _ (by decide +kernel)) ggX1_lookAt_X1_wearByWriting
set_option maxRecDepth 20000 in
theorem ggX1_lookAt_X1_isBad : GoodIn wsX1_lookAt wsX1_isBad := goodIn_r _ [69, 9, 10, 75, 76, 77, 78, 79, 80, 81, 82, 83, 84, 85, 86, 87, 88, 89] (by decide +kernel) (by decide +kernel)
set_option maxRecDepth 20000 in
theorem gX1_lookAt_X1_isBad : GoodIn wsX1_lookAt (wsV RX1 89 RX1 yX1_isBad wsX1_isBad) := goodIn_app (goodIn_of _ (by decide +kernel)) ggX1_lookAt_X1_isBad
set_option maxRecDepth 20000 in
theorem ggX1_lookAt_X1_lose : GoodIn wsX1_lookAt wsX1_lose := goodIn_r _ [73, 74, 39, 40, 41, 7, 42, 27, 1, 43, 44, 45, 46, 75, 76, 77, 78, 79, 80, 81, 82, 83, 84, 85, 86, 87, 88, 89] (by decide +kernel) (by decide +kernel)
set_option maxRecDepth 20000 in
theorem gX1_lookAt_X1_lose : GoodIn wsX1_lookAt (wsV RX1 139 RX1 yX1_lose wsX1_lose) := goodIn_app (goodIn_of _ (by decide +kernel)) ggX1_lookAt_X1_lose
set_option maxRecDepth 20000 in
theorem ggX1_lend_X1_release : GoodIn wsX1_lend wsX1_release := goodIn_r _ [7, 2, 1, 8, 9, 10, 6, 11, 12, 13, 14, 15, 16, 17, 18, 19, 20, 21, 22, 23, 24, 25, 26] (by decide +kernel) (by decide +kernel)
set_option maxRecDepth 20000 in
theorem gX1_lend_X1_release : GoodIn wsX1_lend (wsV RX1 142 RX1 yX1_release wsX1_release) := goodIn_app (goodIn_of _ (by decide +kernel)) ggX1_lend_X1_release
set_option maxRecDepth 20000 in
theorem ggX1_lose_X1_release : GoodIn wsX1_lose wsX1_release := goodIn_r _ [6, 7, 8, 9, 10, 11, 5, 12, 13, 14, 15, 16, 17, 18, 19, 20, 21, 22, 23, 24, 25, 26, 27] (by decide +kernel) (by decide +kernel)
set_option maxRecDepth 20000 in
theorem gX1_lose_X1_release : GoodIn wsX1_lose (wsV RX1 142 RX1 yX1_release wsX1_release) := goodIn_app (goodIn_of _ (by decide +kernel)) ggX1_lose_X1_release
set_option maxRecDepth 20000 in
theorem ggX1_release_X1_isLost : GoodIn wsX1_release wsX1_isLost := goodIn_r _ [7, 2, 8, 9, 10, 11, 12, 13, 14, 15, 16, 17, 18, 19, 20, 21, 22] (by decide +kernel) (by decide +kernel)
set_option maxRecDepth 20000 in
theorem gX1_release_X1_isLost : GoodIn wsX1_release (wsV RX1 83 RX1 yX1_isLost wsX1_isLost) := goodIn_app (goodIn_of _ (by decide +kernel)) ggX1_release_X1_isLost
set_option maxRecDepth 20000 in
theorem ggX1_wearByReading_X3_headOf : GoodIn wsX1_wearByReading wsX3_headOf := goodIn_r _ [5] (by decide +kernel) (by decide +kernel)
set_option maxRecDepth 20000 in
theorem gX1_wearByReading_X3_headOf_n80 : GoodIn wsX1_wearByReading (wsX3_headOf) := ggX1_wearByReading_X3_headOf
set_option maxRecDepth 20000 in
theorem ggX1_wearByWriting_X3_headOf : GoodIn wsX1_wearByWriting wsX3_headOf := goodIn_r _ [5] (by decide +kernel) (by decide +kernel)
set_option maxRecDepth 20000 in
theorem gX1_wearByWriting_X3_headOf_n80 : GoodIn wsX1_wearByWriting (wsX3_headOf) := ggX1_wearByWriting_X3_headOf
set_option maxRecDepth 20000 in
theorem ggX1_goTo_X1_stepsTo : GoodIn wsX1_goTo wsX1_stepsTo := goodIn_r _ [8, 2, 9, 3, 10, 11, 12, 13, 14, 15, 16, 17, 18, 19, 20, 21, 22, 23, 24, 25, 26, 27, 28, 29, 30, 31, 32, 33, 34, 35, 36, 37] (by decide +kernel) (by decide +kernel)
set_option maxRecDepth 20000 in
theorem gX1_goTo_X1_stepsTo : GoodIn wsX1_goTo (wsV RX1 145 RX1 yX1_stepsTo wsX1_stepsTo) := goodIn_app (goodIn_of _ (by decide +kernel)) ggX1_goTo_X1_stepsTo
set_option maxRecDepth 20000 in
theorem ggX1_moveTo_X3_stepsBetween : GoodIn wsX1_moveTo wsX3_stepsBetween := goodIn_r _ [5, 6, 7, 8, 9, 10, 11, 4, 12, 13, 14, 15] (by decide +kernel) (by decide +kernel)
set_option maxRecDepth 20000 in
theorem gX1_moveTo_X3_stepsBetween_n101 : GoodIn wsX1_moveTo (wsX3_stepsBetween) := ggX1_moveTo_X3_stepsBetween
set_option maxRecDepth 20000 in
theorem ggX1_giveBackAt_X1_isAddress : GoodIn wsX1_giveBackAt wsX1_isAddress := goodIn_r _ [7, 8, 9, 10, 11, 12, 13, 14, 15, 66, 67, 68, 69, 70, 71, 72, 73, 74, 75, 76, 77, 78, 79, 80] (by decide +kernel) (by decide +kernel)
set_option maxRecDepth 20000 in
theorem gX1_giveBackAt_X1_isAddress : GoodIn wsX1_giveBackAt (wsV RX1 69 RX1 yX1_isAddress wsX1_isAddress) := goodIn_app (goodIn_of _ (by decide +kernel)) ggX1_giveBackAt_X1_isAddress
set_option maxRecDepth 20000 in
theorem ggX1_giveBackAt_X1_isLongWay : GoodIn wsX1_giveBackAt wsX1_isLongWay := goodIn_r _ [19, 2, 20, 21, 22, 6, 23, 66, 67, 68, 69, 70, 71, 72, 73, 74, 75, 76, 77, 78, 79, 80] (by decide +kernel) (by decide +kernel)
set_option maxRecDepth 20000 in
theorem gX1_giveBackAt_X1_isLongWay : GoodIn wsX1_giveBackAt (wsV RX1 148 RX1 yX1_isLongWay wsX1_isLongWay) := goodIn_app (goodIn_of _ (by decide +kernel)) ggX1_giveBackAt_X1_isLongWay
set_option maxRecDepth 20000 in
theorem ggX1_giveBackAt_X1_isGood : GoodIn wsX1_giveBackAt wsX1_isGood := goodIn_r _ [27, 28, 29, 66, 67, 68, 69, 70, 71, 72, 73, 74, 75, 76, 77, 78, 79, 80] (by decide +kernel) (by decide +kernel)
set_option maxRecDepth 20000 in
theorem gX1_giveBackAt_X1_isGood : GoodIn wsX1_giveBackAt (wsV RX1 86 RX1 yX1_isGood wsX1_isGood) := goodIn_app (goodIn_of _ (by decide +kernel)) ggX1_giveBackAt_X1_isGood
set_option maxRecDepth 20000 in
theorem ggX1_giveBackAt_X3_headOf : GoodIn wsX1_giveBackAt wsX3_headOf := goodIn_r _ [15] (by decide +kernel) (by decide +kernel)
set_option maxRecDepth 20000 in
theorem gX1_giveBackAt_X3_headOf_n80 : GoodIn wsX1_giveBackAt (wsX3_headOf) := ggX1_giveBackAt_X3_headOf
set_option maxRecDepth 20000 in
theorem ggX1_giveBackAt_X1_goTo : GoodIn wsX1_giveBackAt wsX1_goTo := goodIn_r _ [33, 34, 2, 35, 36, 37, 38, 6, 39, 1, 14, 10, 15, 40, 41, 42, 43, 44, 45, 46, 12, 13, 47, 66, 67, 68, 69, 70, 71, 72, 73, 74, 75, 76, 77, 78, 79, 80] (by decide +kernel) (by decide +kernel)
set_option maxRecDepth 20000 in
theorem gX1_giveBackAt_X1_goTo : GoodIn wsX1_giveBackAt (wsV RX1 108 RX1 yX1_goTo wsX1_goTo) := goodIn_app (goodIn_of _ (by decide +kernel)) ggX1_giveBackAt_X1_goTo
set_option maxRecDepth 20000 in
theorem ggX1_giveBackAt_X1_moveTo : GoodIn wsX1_giveBackAt wsX1_moveTo := goodIn_r _ [51, 34, 35, 40, 10, 41, 42, 43, 44, 45, 46, 12, 13, 47, 14, 15, 66, 67, 68, 69, 70, 71, 72, 73, 74, 75, 76, 77, 78, 79, 80] (by decide +kernel) (by decide +kernel)
set_option maxRecDepth 20000 in
theorem gX1_giveBackAt_X1_moveTo : GoodIn wsX1_giveBackAt (wsV RX1 136 RX1 yX1_moveTo wsX1_moveTo) := goodIn_app (goodIn_of _ (by decide +kernel)) ggX1_giveBackAt_X1_moveTo
set_option maxRecDepth 20000 in
theorem ggX1_giveBackAt_X1_wearByWriting : GoodIn wsX1_giveBackAt wsX1_wearByWriting := goodIn_r _ [55, 28, 56, 14, 10, 15, 66, 67, 68, 69, 70, 71, 72, 73, 74, 75, 76, 77, 78, 79, 80] (by decide +kernel) (by decide +kernel)
set_option maxRecDepth 20000 in
theorem gX1_giveBackAt_X1_wearByWriting : GoodIn wsX1_giveBackAt (wsV RX1 124 RX1 yX1_wearByWriting wsX1_wearByWriting) := goodIn_app (goodIn_of _ (by decide +kernel)) ggX1_giveBackAt_X1_wearByWriting
set_option maxRecDepth 20000 in
theorem ggX1_giveBackAt_X1_lend : GoodIn wsX1_giveBackAt wsX1_lend := goodIn_r _ [60, 2, 61, 62, 63, 64, 6, 65, 20, 21, 22, 23, 66, 67, 68, 69, 70, 71, 72, 73, 74, 75, 76, 77, 78, 79, 80] (by decide +kernel) (by decide +kernel)
set_option maxRecDepth 20000 in
theorem gX1_giveBackAt_X1_lend : GoodIn wsX1_giveBackAt (wsV RX1 121 RX1 yX1_lend wsX1_lend) := goodIn_app (goodIn_of _ (by decide +kernel)) ggX1_giveBackAt_X1_lend
set_option maxRecDepth 20000 in
theorem ggX1_vacate_X1_isAddress : GoodIn wsX1_vacate wsX1_isAddress := goodIn_r _ [8, 9, 10, 11, 12, 13, 14, 15, 16, 65, 66, 67, 68, 69, 70, 71, 72, 73, 74, 75, 76, 77, 78, 79] (by decide +kernel) (by decide +kernel)
set_option maxRecDepth 20000 in
theorem gX1_vacate_X1_isAddress : GoodIn wsX1_vacate (wsV RX1 69 RX1 yX1_isAddress wsX1_isAddress) := goodIn_app (goodIn_of _ (by decide +kernel)) ggX1_vacate_X1_isAddress
set_option maxRecDepth 20000 in
theorem ggX1_vacate_X1_isLost : GoodIn wsX1_vacate wsX1_isLost := goodIn_r _ [20, 3, 65, 66, 67, 68, 69, 70, 71, 72, 73, 74, 75, 76, 77, 78, 79] (by decide +kernel) (by decide +kernel)
set_option maxRecDepth 20000 in
theorem gX1_vacate_X1_isLost : GoodIn wsX1_vacate (wsV RX1 83 RX1 yX1_isLost wsX1_isLost) := goodIn_app (goodIn_of _ (by decide +kernel)) ggX1_vacate_X1_isLost
set_option maxRecDepth 20000 in
theorem ggX1_vacate_X3_headOf : GoodIn wsX1_vacate wsX3_headOf := goodIn_r _ [16] (by decide +kernel) (by decide +kernel)
set_option maxRecDepth 20000 in
theorem gX1_vacate_X3_headOf_n80 : GoodIn wsX1_vacate (wsX3_headOf) := ggX1_vacate_X3_headOf
set_option maxRecDepth 20000 in
theorem ggX1_vacate_X1_moveAway : GoodIn wsX1_vacate wsX1_moveAway := goodIn_r _ [24, 25, 26, 27, 7, 28, 15, 11, 16, 29, 30, 31, 32, 33, 34, 35, 36, 9, 37, 2, 13, 14, 38, 39, 40, 41, 42, 43, 44, 45, 46, 47, 48, 49, 50, 51, 1, 52, 53, 54, 55, 3, 17, 18, 19, 20, 56, 57, 58, 59, 60, 61, 62, 63, 64, 65, 66, 67, 68, 69, 70, 71, 72, 73, 74, 75, 76, 77, 78, 79] (by decide +kernel) (by decide +kernel)
set_option maxRecDepth 20000 in
theorem gX1_vacate_X1_moveAway : GoodIn wsX1_vacate (wsV RX1 151 RX1 yX1_moveAway wsX1_moveAway) := goodIn_app (goodIn_of _ (by decide +kernel)) ggX1_vacate_X1_moveAway
set_option maxRecDepth 20000 in
theorem ggX1_moveAway_X1_lendableTo : GoodIn wsX1_moveAway wsX1_lendableTo := goodIn_r _ [5, 6, 7, 8, 9, 10, 11, 4, 12, 13, 14, 15, 16, 17, 18, 19, 20, 21, 22, 23, 24, 25, 26, 27, 28, 29, 30, 31, 55, 56, 57, 58, 59, 60, 61, 62, 63, 64, 65, 66, 67, 68, 69] (by decide +kernel) (by decide +kernel)
set_option maxRecDepth 20000 in
theorem gX1_moveAway_X1_lendableTo : GoodIn wsX1_moveAway (wsV RX1 118 RX1 yX1_lendableTo wsX1_lendableTo) := goodIn_app (goodIn_of _ (by decide +kernel)) ggX1_moveAway_X1_lendableTo
set_option maxRecDepth 20000 in
theorem ggX1_moveAway_X1_lose : GoodIn wsX1_moveAway wsX1_lose := goodIn_r _ [35, 36, 37, 38, 39, 4, 40, 18, 41, 42, 43, 44, 45, 55, 56, 57, 58, 59, 60, 61, 62, 63, 64, 65, 66, 67, 68, 69] (by decide +kernel) (by decide +kernel)
set_option maxRecDepth 20000 in
theorem gX1_moveAway_X1_lose : GoodIn wsX1_moveAway (wsV RX1 139 RX1 yX1_lose wsX1_lose) := goodIn_app (goodIn_of _ (by decide +kernel)) ggX1_moveAway_X1_lose
set_option maxRecDepth 20000 in
theorem ggX1_moveAway_X1_lend : GoodIn wsX1_moveAway wsX1_lend := goodIn_r _ [49, 41, 18, 37, 38, 39, 4, 40, 42, 43, 44, 45, 55, 56, 57, 58, 59, 60, 61, 62, 63, 64, 65, 66, 67, 68, 69] (by decide +kernel) (by decide +kernel)
set_option maxRecDepth 20000 in
theorem gX1_moveAway_X1_lend : GoodIn wsX1_moveAway (wsV RX1 121 RX1 yX1_lend wsX1_lend) := goodIn_app (goodIn_of _ (by decide +kernel)) ggX1_moveAway_X1_lend
set_option maxRecDepth 20000 in
theorem ggX1_moveAway_X1_wearByWriting : GoodIn wsX1_moveAway wsX1_wearByWriting := goodIn_r _ [53, 26, 54, 6, 7, 8, 55, 56, 57, 58, 59, 60, 61, 62, 63, 64, 65, 66, 67, 68, 69] (by decide +kernel) (by decide +kernel)
set_option maxRecDepth 20000 in
theorem gX1_moveAway_X1_wearByWriting : GoodIn wsX1_moveAway (wsV RX1 124 RX1 yX1_wearByWriting wsX1_wearByWriting) := goodIn_app (goodIn_of _ (by decide +kernel)) ggX1_moveAway_X1_wearByWriting
set_option maxRecDepth 20000 in
theorem ggX1_tellAddress_X1_isLost : GoodIn wsX1_tellAddress wsX1_isLost := goodIn_r _ [8, 2, 56, 57, 58, 59, 60, 61, 62, 63, 64, 65, 66, 67, 68, 69, 70] (by decide +kernel) (by decide +kernel)
set_option maxRecDepth 20000 in
theorem gX1_tellAddress_X1_isLost : GoodIn wsX1_tellAddress (wsV RX1 83 RX1 yX1_isLost wsX1_isLost) := goodIn_app (goodIn_of _ (by decide +kernel)) ggX1_tellAddress_X1_isLost
set_option maxRecDepth 20000 in
theorem ggX1_tellAddress_X1_isLongWay : GoodIn wsX1_tellAddress wsX1_isLongWay := goodIn_r _ [12, 2, 4, 5, 6, 7, 8, 56, 57, 58, 59, 60, 61, 62, 63, 64, 65, 66, 67, 68, 69, 70] (by decide +kernel) (by decide +kernel)
set_option maxRecDepth 20000 in
theorem gX1_tellAddress_X1_isLongWay : GoodIn wsX1_tellAddress (wsV RX1 148 RX1 yX1_isLongWay wsX1_isLongWay) := goodIn_app (goodIn_of _ (by decide +kernel)) ggX1_tellAddress_X1_isLongWay
set_option maxRecDepth 20000 in
theorem ggX1_tellAddress_X1_lendableTo : GoodIn wsX1_tellAddress wsX1_lendableTo := goodIn_r _ [16, 17, 18, 19, 20, 21, 22, 7, 23, 24, 25, 26, 27, 28, 29, 30, 31, 32, 33, 34, 35, 36, 37, 38, 39, 40, 41, 42, 56, 57, 58, 59, 60, 61, 62, 63, 64, 65, 66, 67, 68, 69, 70] (by decide +kernel) (by decide +kernel)
set_option maxRecDepth 20000 in
theorem gX1_tellAddress_X1_lendableTo : GoodIn wsX1_tellAddress (wsV RX1 118 RX1 yX1_lendableTo wsX1_lendableTo) := goodIn_app (goodIn_of _ (by decide +kernel)) ggX1_tellAddress_X1_lendableTo
set_option maxRecDepth 20000 in
theorem ggX1_tellAddress_X1_stepsTo : GoodIn wsX1_tellAddress wsX1_stepsTo := goodIn_r _ [46, 2, 30, 47, 17, 18, 19, 48, 49, 50, 51, 52, 53, 54, 31, 32, 55, 56, 57, 58, 59, 60, 61, 62, 63, 64, 65, 66, 67, 68, 69, 70] (by decide +kernel) (by decide +kernel)
set_option maxRecDepth 20000 in
theorem gX1_tellAddress_X1_stepsTo : GoodIn wsX1_tellAddress (wsV RX1 145 RX1 yX1_stepsTo wsX1_stepsTo) := goodIn_app (goodIn_of _ (by decide +kernel)) ggX1_tellAddress_X1_stepsTo
set_option maxRecDepth 20000 in
theorem ggX1_tellSector_X1_gradeOf : GoodIn wsX1_tellSector wsX1_gradeOf := goodIn_r _ [7, 8, 9, 10, 6, 11, 1, 12, 13, 14, 15, 16, 34, 35, 36, 37, 38, 39, 40, 41, 42, 43, 44, 45, 46, 47, 48] (by decide +kernel) (by decide +kernel)
set_option maxRecDepth 20000 in
theorem gX1_tellSector_X1_gradeOf : GoodIn wsX1_tellSector (wsV RX1 154 RX1 yX1_gradeOf wsX1_gradeOf) := goodIn_app (goodIn_of _ (by decide +kernel)) ggX1_tellSector_X1_gradeOf
set_option maxRecDepth 20000 in
theorem ggX1_tellSector_X1_isAddress : GoodIn wsX1_tellSector wsX1_isAddress := goodIn_r _ [20, 21, 22, 23, 24, 25, 26, 27, 28, 34, 35, 36, 37, 38, 39, 40, 41, 42, 43, 44, 45, 46, 47, 48] (by decide +kernel) (by decide +kernel)
set_option maxRecDepth 20000 in
theorem gX1_tellSector_X1_isAddress : GoodIn wsX1_tellSector (wsV RX1 69 RX1 yX1_isAddress wsX1_isAddress) := goodIn_app (goodIn_of _ (by decide +kernel)) ggX1_tellSector_X1_isAddress
set_option maxRecDepth 20000 in
theorem ggX1_tellSector_X1_isFree : GoodIn wsX1_tellSector wsX1_isFree := goodIn_r _ [32, 21, 2, 33, 27, 23, 28, 25, 26, 8, 9, 10, 6, 11, 1, 12, 34, 35, 36, 37, 38, 39, 40, 41, 42, 43, 44, 45, 46, 47, 48] (by decide +kernel) (by decide +kernel)
set_option maxRecDepth 20000 in
theorem gX1_tellSector_X1_isFree : GoodIn wsX1_tellSector (wsV RX1 92 RX1 yX1_isFree wsX1_isFree) := goodIn_app (goodIn_of _ (by decide +kernel)) ggX1_tellSector_X1_isFree
set_option maxRecDepth 20000 in
theorem ggX1_tellHead_X1_freeOf : GoodIn wsX1_tellHead wsX1_freeOf := goodIn_r _ [10, 11, 12, 13, 9, 14, 2, 4, 3, 15, 16, 17, 18, 19, 20, 21, 22, 23, 24, 25, 54, 55, 56, 57, 58, 59, 60, 61, 62, 63, 64, 65, 66, 67, 68] (by decide +kernel) (by decide +kernel)
set_option maxRecDepth 20000 in
theorem gX1_tellHead_X1_freeOf : GoodIn wsX1_tellHead (wsV RX1 98 RX1 yX1_freeOf wsX1_freeOf) := goodIn_app (goodIn_of _ (by decide +kernel)) ggX1_tellHead_X1_freeOf
