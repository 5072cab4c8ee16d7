theorem dX3_test_13 : decode cX3_test 13 = .ok (.aload_n 0, 1) := by decide +kernel
theorem dX3_test_14 : decode cX3_test 14 = .ok (.aload_n 0, 1) := by decide +kernel
theorem dX3_test_15 : decode cX3_test 15 = .ok (.getfield 16, 3) := by decide +kernel
theorem dX3_test_18 : decode cX3_test 18 = .ok (.iload_n 1, 1) := by decide +kernel
theorem dX3_test_19 : decode cX3_test 19 = .ok (.invokevirtual 74, 3) := by decide +kernel
theorem dX3_test_22 : decode cX3_test 22 = .ok (.invokevirtual 47, 3) := by decide +kernel
theorem dX3_test_25 : decode cX3_test 25 = .ok (.ireturn, 1) := by decide +kernel
set_option maxRecDepth 20000 in
theorem ggX3_perform_X0_parse : GoodIn wsX3_perform wsX0_parse := goodIn_r _ [7, 8, 9, 10, 11, 12, 6, 13, 14, 15, 16, 17, 18, 19, 20, 21, 22, 23, 24, 25, 26, 27, 28, 29, 30, 31, 32, 33, 34, 35, 36, 37, 190, 191, 192, 193, 194, 195] (by decide +kernel) (by decide +kernel)
set_option maxRecDepth 20000 in
theorem gX3_perform_X0_parse : GoodIn wsX3_perform (wsV RX3 77 RX0 yX0_parse wsX0_parse) := goodIn_app (goodIn_of _ (by decide +kernel)) ggX3_perform_X0_parse
set_option maxRecDepth 20000 in
theorem ggX3_perform_X3_startTrial : GoodIn wsX3_perform wsX3_startTrial := goodIn_r _ [42, 2, 43, 44, 45, 46, 47, 48, 49, 50, 51, 52, 53, 54, 55, 56, 57, 58, 59, 60, 61, 62, 63, 64, 65, 66, 67, 184, 185, 186, 187, 188, 189, 196, 197, 198, 199, 200, 201, 202, 203, 204, 205, 206, 207, 208, 209, 210] (by decide +kernel) (by decide +kernel)
set_option maxRecDepth 20000 in
theorem gX3_perform_X3_startTrial : GoodIn wsX3_perform (wsV RX3 40 RX3 yX3_startTrial wsX3_startTrial) := goodIn_app (goodIn_of _ (by decide +kernel)) ggX3_perform_X3_startTrial
set_option maxRecDepth 20000 in
theorem ggX3_perform_X0_commandCount : GoodIn wsX3_perform wsX0_commandCount := goodIn_r _ [71, 9, 190, 191, 192, 193, 194, 195] (by decide +kernel) (by decide +kernel)
set_option maxRecDepth 20000 in
theorem gX3_perform_X0_commandCount : GoodIn wsX3_perform (wsV RX3 81 RX0 yX0_commandCount wsX0_commandCount) := goodIn_app (goodIn_of _ (by decide +kernel)) ggX3_perform_X0_commandCount
set_option maxRecDepth 20000 in
theorem ggX3_perform_X0_commandSector : GoodIn wsX3_perform wsX0_commandSector := goodIn_r _ [75, 36, 190, 191, 192, 193, 194, 195] (by decide +kernel) (by decide +kernel)
set_option maxRecDepth 20000 in
theorem gX3_perform_X0_commandSector : GoodIn wsX3_perform (wsV RX3 84 RX0 yX0_commandSector wsX0_commandSector) := goodIn_app (goodIn_of _ (by decide +kernel)) ggX3_perform_X0_commandSector
set_option maxRecDepth 20000 in
theorem ggX3_perform_X0_commandValue : GoodIn wsX3_perform wsX0_commandValue := goodIn_r _ [79, 37, 190, 191, 192, 193, 194, 195] (by decide +kernel) (by decide +kernel)
set_option maxRecDepth 20000 in
theorem gX3_perform_X0_commandValue : GoodIn wsX3_perform (wsV RX3 87 RX0 yX0_commandValue wsX0_commandValue) := goodIn_app (goodIn_of _ (by decide +kernel)) ggX3_perform_X0_commandValue
set_option maxRecDepth 20000 in
theorem ggX3_perform_X1_readAt : GoodIn wsX3_perform wsX1_readAt := goodIn_r _ [83, 60, 66, 58, 84, 85, 86, 47, 87, 55, 88, 41, 89, 90, 91, 92, 93, 94, 95, 96, 97, 98, 99, 100, 101, 63, 62, 102, 103, 104, 105, 56, 106, 107, 108, 109, 110, 111, 112, 113, 114, 115, 116, 117, 57, 50, 118, 119, 120, 121, 64, 59, 122, 123, 124, 125, 49, 126, 127, 128, 129, 130, 131, 132, 133, 134, 135, 136, 137, 61, 138, 139, 140, 141, 142, 143, 144, 145, 146, 147, 148, 149, 150, 151, 152, 153, 154, 155, 156, 157, 158, 159, 160, 161, 162, 163, 164, 165, 65, 196, 197, 198, 199, 200, 201, 202, 203, 204, 205, 206, 207, 208, 209, 210] (by decide +kernel) (by decide +kernel)
set_option maxRecDepth 20000 in
theorem gX3_perform_X1_readAt : GoodIn wsX3_perform (wsV RX3 61 RX1 yX1_readAt wsX1_readAt) := goodIn_app (goodIn_of _ (by decide +kernel)) ggX3_perform_X1_readAt
set_option maxRecDepth 20000 in
theorem ggX3_perform_X1_writeAt : GoodIn wsX3_perform wsX1_writeAt := goodIn_r _ [169, 60, 58, 67, 84, 85, 86, 47, 87, 55, 88, 41, 89, 90, 91, 92, 93, 94, 95, 96, 97, 126, 127, 128, 129, 130, 131, 132, 133, 134, 135, 136, 137, 61, 56, 122, 123, 124, 125, 57, 49, 138, 139, 140, 141, 142, 143, 144, 145, 146, 147, 148, 149, 98, 99, 100, 101, 63, 62, 102, 103, 104, 105, 106, 107, 108, 109, 110, 111, 112, 113, 154, 155, 156, 157, 50, 118, 119, 120, 121, 64, 59, 150, 151, 152, 153, 158, 159, 160, 161, 162, 163, 164, 165, 65, 196, 197, 198, 199, 200, 201, 202, 203, 204, 205, 206, 207, 208, 209, 210] (by decide +kernel) (by decide +kernel)
set_option maxRecDepth 20000 in
theorem gX3_perform_X1_writeAt : GoodIn wsX3_perform (wsV RX3 64 RX1 yX1_writeAt wsX1_writeAt) := goodIn_app (goodIn_of _ (by decide +kernel)) ggX3_perform_X1_writeAt
set_option maxRecDepth 20000 in
theorem ggX3_perform_X3_settle : GoodIn wsX3_perform wsX3_settle := goodIn_r _ [173, 174, 43, 2, 175, 176, 177, 178, 179, 180, 181, 182, 183, 45, 46, 47, 48, 49, 50, 51, 52, 53, 54, 55, 56, 57, 58, 59, 60, 61, 62, 63, 64, 65, 66, 67, 44, 184, 185, 186, 187, 188, 189, 211, 212, 213, 196, 197, 198, 199, 200, 201, 202, 203, 204, 205, 206, 207, 208, 209, 210] (by decide +kernel) (by decide +kernel)
set_option maxRecDepth 20000 in
theorem gX3_perform_X3_settle : GoodIn wsX3_perform (wsV RX3 47 RX3 yX3_settle wsX3_settle) := goodIn_app (goodIn_of _ (by decide +kernel)) ggX3_perform_X3_settle
theorem dX3_perform_0 : decode cX3_perform 0 = .ok (.aload_n 0, 1) := by decide +kernel
theorem dX3_perform_1 : decode cX3_perform 1 = .ok (.getfield 32, 3) := by decide +kernel
theorem dX3_perform_4 : decode cX3_perform 4 = .ok (.invokevirtual 77, 3) := by decide +kernel
theorem dX3_perform_7 : decode cX3_perform 7 = .ok (.istore_n 1, 1) := by decide +kernel
theorem dX3_perform_8 : decode cX3_perform 8 = .ok (.iload_n 1, 1) := by decide +kernel
theorem dX3_perform_9 : decode cX3_perform 9 = .ok (.bipush (-5), 2) := by decide +kernel
theorem dX3_perform_11 : decode cX3_perform 11 = .ok (.if_icmp .eq 8, 3) := by decide +kernel
theorem dX3_perform_14 : decode cX3_perform 14 = .ok (.bipush (-100), 2) := by decide +kernel
theorem dX3_perform_16 : decode cX3_perform 16 = .ok (.iload_n 1, 1) := by decide +kernel
theorem dX3_perform_17 : decode cX3_perform 17 = .ok (.isub, 1) := by decide +kernel
theorem dX3_perform_18 : decode cX3_perform 18 = .ok (.ireturn, 1) := by decide +kernel
theorem dX3_perform_19 : decode cX3_perform 19 = .ok (.aload_n 0, 1) := by decide +kernel
theorem dX3_perform_20 : decode cX3_perform 20 = .ok (.invokevirtual 40, 3) := by decide +kernel
theorem dX3_perform_23 : decode cX3_perform 23 = .ok (.iconst 0, 1) := by decide +kernel
theorem dX3_perform_24 : decode cX3_perform 24 = .ok (.istore_n 2, 1) := by decide +kernel
theorem dX3_perform_25 : decode cX3_perform 25 = .ok (.iload_n 2, 1) := by decide +kernel
theorem dX3_perform_26 : decode cX3_perform 26 = .ok (.aload_n 0, 1) := by decide +kernel
theorem dX3_perform_27 : decode cX3_perform 27 = .ok (.getfield 32, 3) := by decide +kernel
theorem dX3_perform_30 : decode cX3_perform 30 = .ok (.invokevirtual 81, 3) := by decide +kernel
theorem dX3_perform_33 : decode cX3_perform 33 = .ok (.if_icmp .ge 66, 3) := by decide +kernel
theorem dX3_perform_36 : decode cX3_perform 36 = .ok (.aload_n 0, 1) := by decide +kernel
theorem dX3_perform_37 : decode cX3_perform 37 = .ok (.getfield 32, 3) := by decide +kernel
theorem dX3_perform_40 : decode cX3_perform 40 = .ok (.iload_n 2, 1) := by decide +kernel
theorem dX3_perform_41 : decode cX3_perform 41 = .ok (.invokevirtual 84, 3) := by decide +kernel
theorem dX3_perform_44 : decode cX3_perform 44 = .ok (.istore_n 3, 1) := by decide +kernel
theorem dX3_perform_45 : decode cX3_perform 45 = .ok (.aload_n 0, 1) := by decide +kernel
theorem dX3_perform_46 : decode cX3_perform 46 = .ok (.getfield 32, 3) := by decide +kernel
theorem dX3_perform_49 : decode cX3_perform 49 = .ok (.iload_n 2, 1) := by decide +kernel
theorem dX3_perform_50 : decode cX3_perform 50 = .ok (.invokevirtual 87, 3) := by decide +kernel
theorem dX3_perform_53 : decode cX3_perform 53 = .ok (.istore 4, 2) := by decide +kernel
theorem dX3_perform_55 : decode cX3_perform 55 = .ok (.iload 4, 2) := by decide +kernel
theorem dX3_perform_57 : decode cX3_perform 57 = .ok (.bipush (-5), 2) := by decide +kernel
theorem dX3_perform_59 : decode cX3_perform 59 = .ok (.if_icmp .ne 14, 3) := by decide +kernel
theorem dX3_perform_62 : decode cX3_perform 62 = .ok (.aload_n 0, 1) := by decide +kernel
theorem dX3_perform_63 : decode cX3_perform 63 = .ok (.getfield 16, 3) := by decide +kernel
theorem dX3_perform_66 : decode cX3_perform 66 = .ok (.iload_n 3, 1) := by decide +kernel
theorem dX3_perform_67 : decode cX3_perform 67 = .ok (.invokevirtual 61, 3) := by decide +kernel
theorem dX3_perform_70 : decode cX3_perform 70 = .ok (.goto 13, 3) := by decide +kernel
theorem dX3_perform_73 : decode cX3_perform 73 = .ok (.aload_n 0, 1) := by decide +kernel
theorem dX3_perform_74 : decode cX3_perform 74 = .ok (.getfield 16, 3) := by decide +kernel
theorem dX3_perform_77 : decode cX3_perform 77 = .ok (.iload_n 3, 1) := by decide +kernel
theorem dX3_perform_78 : decode cX3_perform 78 = .ok (.iload 4, 2) := by decide +kernel
theorem dX3_perform_80 : decode cX3_perform 80 = .ok (.invokevirtual 64, 3) := by decide +kernel
theorem dX3_perform_83 : decode cX3_perform 83 = .ok (.istore 5, 2) := by decide +kernel
theorem dX3_perform_85 : decode cX3_perform 85 = .ok (.iload 5, 2) := by decide +kernel
theorem dX3_perform_87 : decode cX3_perform 87 = .ok (.ifCond .ge 6, 3) := by decide +kernel
theorem dX3_perform_90 : decode cX3_perform 90 = .ok (.iload 5, 2) := by decide +kernel
theorem dX3_perform_92 : decode cX3_perform 92 = .ok (.ireturn, 1) := by decide +kernel
theorem dX3_perform_93 : decode cX3_perform 93 = .ok (.iinc 2 1, 3) := by decide +kernel
theorem dX3_perform_96 : decode cX3_perform 96 = .ok (.goto (-71), 3) := by decide +kernel
theorem dX3_perform_99 : decode cX3_perform 99 = .ok (.aload_n 0, 1) := by decide +kernel
theorem dX3_perform_100 : decode cX3_perform 100 = .ok (.aload_n 0, 1) := by decide +kernel
theorem dX3_perform_101 : decode cX3_perform 101 = .ok (.getfield 32, 3) := by decide +kernel
theorem dX3_perform_104 : decode cX3_perform 104 = .ok (.invokevirtual 81, 3) := by decide +kernel
theorem dX3_perform_107 : decode cX3_perform 107 = .ok (.invokevirtual 47, 3) := by decide +kernel
theorem dX3_perform_110 : decode cX3_perform 110 = .ok (.ireturn, 1) := by decide +kernel
set_option maxRecDepth 20000 in
theorem ggX3_giveBack_X3_startTrial : GoodIn wsX3_giveBack wsX3_startTrial := goodIn_r _ [6, 1, 7, 8, 9, 10, 11, 12, 13, 14, 15, 16, 17, 18, 19, 20, 21, 22, 23, 24, 25, 26, 27, 28, 29, 30, 31, 104, 105, 106, 107, 108, 109, 110, 111, 112, 113, 114, 115, 116, 117, 118, 119, 120, 121, 122, 123, 124] (by decide +kernel) (by decide +kernel)
set_option maxRecDepth 20000 in
theorem gX3_giveBack_X3_startTrial : GoodIn wsX3_giveBack (wsV RX3 40 RX3 yX3_startTrial wsX3_startTrial) := goodIn_app (goodIn_of _ (by decide +kernel)) ggX3_giveBack_X3_startTrial
set_option maxRecDepth 20000 in
theorem ggX3_giveBack_X1_giveBackAt : GoodIn wsX3_giveBack wsX1_giveBackAt := goodIn_r _ [35, 20, 24, 36, 37, 38, 11, 39, 19, 40, 5, 41, 42, 43, 44, 45, 46, 47, 48, 49, 50, 51, 52, 53, 54, 55, 56, 57, 21, 13, 58, 59, 60, 61, 27, 26, 62, 63, 64, 65, 66, 67, 68, 69, 70, 71, 72, 73, 74, 75, 76, 77, 78, 79, 80, 81, 14, 82, 83, 84, 85, 25, 86, 87, 88, 89, 110, 111, 112, 113, 114, 115, 116, 117, 118, 119, 120, 121, 122, 123, 124] (by decide +kernel) (by decide +kernel)
set_option maxRecDepth 20000 in
theorem gX3_giveBack_X1_giveBackAt : GoodIn wsX3_giveBack (wsV RX3 90 RX1 yX1_giveBackAt wsX1_giveBackAt) := goodIn_app (goodIn_of _ (by decide +kernel)) ggX3_giveBack_X1_giveBackAt
set_option maxRecDepth 20000 in
theorem ggX3_giveBack_X3_settle : GoodIn wsX3_giveBack wsX3_settle := goodIn_r _ [93, 94, 7, 1, 95, 96, 97, 98, 99, 100, 101, 102, 103, 9, 10, 11, 12, 13, 14, 15, 16, 17, 18, 19, 20, 21, 22, 23, 24, 25, 26, 27, 28, 29, 30, 31, 8, 104, 105, 106, 107, 108, 109, 125, 126, 127, 110, 111, 112, 113, 114, 115, 116, 117, 118, 119, 120, 121, 122, 123, 124] (by decide +kernel) (by decide +kernel)
set_option maxRecDepth 20000 in
theorem gX3_giveBack_X3_settle : GoodIn wsX3_giveBack (wsV RX3 47 RX3 yX3_settle wsX3_settle) := goodIn_app (goodIn_of _ (by decide +kernel)) ggX3_giveBack_X3_settle
theorem dX3_giveBack_0 : decode cX3_giveBack 0 = .ok (.aload_n 0, 1) := by decide +kernel
theorem dX3_giveBack_1 : decode cX3_giveBack 1 = .ok (.invokevirtual 40, 3) := by decide +kernel
theorem dX3_giveBack_4 : decode cX3_giveBack 4 = .ok (.aload_n 0, 1) := by decide +kernel
theorem dX3_giveBack_5 : decode cX3_giveBack 5 = .ok (.aload_n 0, 1) := by decide +kernel
theorem dX3_giveBack_6 : decode cX3_giveBack 6 = .ok (.getfield 16, 3) := by decide +kernel
theorem dX3_giveBack_9 : decode cX3_giveBack 9 = .ok (.iload_n 1, 1) := by decide +kernel
theorem dX3_giveBack_10 : decode cX3_giveBack 10 = .ok (.invokevirtual 90, 3) := by decide +kernel
theorem dX3_giveBack_13 : decode cX3_giveBack 13 = .ok (.invokevirtual 47, 3) := by decide +kernel
theorem dX3_giveBack_16 : decode cX3_giveBack 16 = .ok (.ireturn, 1) := by decide +kernel
set_option maxRecDepth 20000 in
theorem ggX3_giveUp_X3_isHead : GoodIn wsX3_giveUp wsX3_isHead := goodIn_r _ [6] (by decide +kernel) (by decide +kernel)
set_option maxRecDepth 20000 in
theorem gX3_giveUp_X3_isHead : GoodIn wsX3_giveUp (va_wsS RX3 50 yX3_isHead wsX3_isHead) := goodIn_app (goodIn_of _ (by decide +kernel)) ggX3_giveUp_X3_isHead
set_option maxRecDepth 20000 in
theorem ggX3_giveUp_X1_othersAreGivenUp : GoodIn wsX3_giveUp wsX1_othersAreGivenUp := goodIn_r _ [11, 12, 121, 122, 123, 124, 125, 126, 127, 128, 129, 130, 131, 132, 133, 134, 135] (by decide +kernel) (by decide +kernel)
set_option maxRecDepth 20000 in
theorem gX3_giveUp_X1_othersAreGivenUp : GoodIn wsX3_giveUp (wsV RX3 93 RX1 yX1_othersAreGivenUp wsX1_othersAreGivenUp) := goodIn_app (goodIn_of _ (by decide +kernel)) ggX3_giveUp_X1_othersAreGivenUp
set_option maxRecDepth 20000 in
theorem ggX3_giveUp_X1_isGivenUp : GoodIn wsX3_giveUp wsX1_isGivenUp := goodIn_r _ [16, 12, 121, 122, 123, 124, 125, 126, 127, 128, 129, 130, 131, 132, 133, 134, 135] (by decide +kernel) (by decide +kernel)
set_option maxRecDepth 20000 in
theorem gX3_giveUp_X1_isGivenUp : GoodIn wsX3_giveUp (wsV RX3 96 RX1 yX1_isGivenUp wsX1_isGivenUp) := goodIn_app (goodIn_of _ (by decide +kernel)) ggX3_giveUp_X1_isGivenUp
set_option maxRecDepth 20000 in
theorem ggX3_giveUp_X3_startTrial : GoodIn wsX3_giveUp wsX3_startTrial := goodIn_r _ [20, 2, 1, 21, 22, 23, 10, 24, 25, 26, 27, 28, 29, 30, 31, 12, 32, 33, 34, 35, 36, 37, 38, 39, 40, 41, 42, 115, 116, 117, 118, 119, 120, 121, 122, 123, 124, 125, 126, 127, 128, 129, 130, 131, 132, 133, 134, 135] (by decide +kernel) (by decide +kernel)
set_option maxRecDepth 20000 in
theorem gX3_giveUp_X3_startTrial : GoodIn wsX3_giveUp (wsV RX3 40 RX3 yX3_startTrial wsX3_startTrial) := goodIn_app (goodIn_of _ (by decide +kernel)) ggX3_giveUp_X3_startTrial
set_option maxRecDepth 20000 in
theorem ggX3_giveUp_X1_vacate : GoodIn wsX3_giveUp wsX1_vacate := goodIn_r _ [46, 40, 12, 35, 47, 48, 49, 10, 50, 31, 51, 5, 52, 53, 54, 55, 56, 57, 58, 59, 60, 61, 62, 63, 64, 65, 66, 67, 68, 69, 70, 71, 72, 73, 74, 75, 76, 36, 77, 78, 79, 80, 32, 25, 81, 82, 83, 84, 85, 86, 87, 88, 89, 90, 91, 92, 93, 94, 95, 96, 97, 98, 99, 100, 26, 121, 122, 123, 124, 125, 126, 127, 128, 129, 130, 131, 132, 133, 134, 135] (by decide +kernel) (by decide +kernel)
set_option maxRecDepth 20000 in
theorem gX3_giveUp_X1_vacate : GoodIn wsX3_giveUp (wsV RX3 99 RX1 yX1_vacate wsX1_vacate) := goodIn_app (goodIn_of _ (by decide +kernel)) ggX3_giveUp_X1_vacate
set_option maxRecDepth 20000 in
theorem ggX3_giveUp_X3_settle : GoodIn wsX3_giveUp wsX3_settle := goodIn_r _ [104, 105, 1, 2, 106, 107, 108, 109, 110, 111, 112, 113, 114, 22, 23, 10, 24, 25, 26, 27, 28, 29, 30, 31, 12, 32, 33, 34, 35, 36, 37, 38, 39, 40, 41, 42, 21, 115, 116, 117, 118, 119, 120, 136, 137, 138, 121, 122, 123, 124, 125, 126, 127, 128, 129, 130, 131, 132, 133, 134, 135] (by decide +kernel) (by decide +kernel)
set_option maxRecDepth 20000 in
theorem gX3_giveUp_X3_settle : GoodIn wsX3_giveUp (wsV RX3 47 RX3 yX3_settle wsX3_settle) := goodIn_app (goodIn_of _ (by decide +kernel)) ggX3_giveUp_X3_settle
theorem dX3_giveUp_0 : decode cX3_giveUp 0 = .ok (.iload_n 1, 1) := by decide +kernel
theorem dX3_giveUp_1 : decode cX3_giveUp 1 = .ok (.invokestatic 50, 3) := by decide +kernel
theorem dX3_giveUp_4 : decode cX3_giveUp 4 = .ok (.ifCond .ne 5, 3) := by decide +kernel
theorem dX3_giveUp_7 : decode cX3_giveUp 7 = .ok (.iconst (-1), 1) := by decide +kernel
theorem dX3_giveUp_8 : decode cX3_giveUp 8 = .ok (.ireturn, 1) := by decide +kernel
theorem dX3_giveUp_9 : decode cX3_giveUp 9 = .ok (.aload_n 0, 1) := by decide +kernel
theorem dX3_giveUp_10 : decode cX3_giveUp 10 = .ok (.getfield 12, 3) := by decide +kernel
theorem dX3_giveUp_13 : decode cX3_giveUp 13 = .ok (.iload_n 1, 1) := by decide +kernel
theorem dX3_giveUp_14 : decode cX3_giveUp 14 = .ok (.invokevirtual 93, 3) := by decide +kernel
theorem dX3_giveUp_17 : decode cX3_giveUp 17 = .ok (.ifCond .eq 6, 3) := by decide +kernel
theorem dX3_giveUp_20 : decode cX3_giveUp 20 = .ok (.bipush (-4), 2) := by decide +kernel
theorem dX3_giveUp_22 : decode cX3_giveUp 22 = .ok (.ireturn, 1) := by decide +kernel
theorem dX3_giveUp_23 : decode cX3_giveUp 23 = .ok (.aload_n 0, 1) := by decide +kernel
theorem dX3_giveUp_24 : decode cX3_giveUp 24 = .ok (.getfield 12, 3) := by decide +kernel
theorem dX3_giveUp_27 : decode cX3_giveUp 27 = .ok (.iload_n 1, 1) := by decide +kernel
theorem dX3_giveUp_28 : decode cX3_giveUp 28 = .ok (.invokevirtual 96, 3) := by decide +kernel
theorem dX3_giveUp_31 : decode cX3_giveUp 31 = .ok (.ifCond .eq 6, 3) := by decide +kernel
theorem dX3_giveUp_34 : decode cX3_giveUp 34 = .ok (.bipush (-5), 2) := by decide +kernel
theorem dX3_giveUp_36 : decode cX3_giveUp 36 = .ok (.ireturn, 1) := by decide +kernel
theorem dX3_giveUp_37 : decode cX3_giveUp 37 = .ok (.aload_n 0, 1) := by decide +kernel
theorem dX3_giveUp_38 : decode cX3_giveUp 38 = .ok (.invokevirtual 40, 3) := by decide +kernel
theorem dX3_giveUp_41 : decode cX3_giveUp 41 = .ok (.aload_n 0, 1) := by decide +kernel
theorem dX3_giveUp_42 : decode cX3_giveUp 42 = .ok (.aload_n 0, 1) := by decide +kernel
theorem dX3_giveUp_43 : decode cX3_giveUp 43 = .ok (.getfield 16, 3) := by decide +kernel
theorem dX3_giveUp_46 : decode cX3_giveUp 46 = .ok (.iload_n 1, 1) := by decide +kernel
theorem dX3_giveUp_47 : decode cX3_giveUp 47 = .ok (.invokevirtual 99, 3) := by decide +kernel
theorem dX3_giveUp_50 : decode cX3_giveUp 50 = .ok (.invokevirtual 47, 3) := by decide +kernel
theorem dX3_giveUp_53 : decode cX3_giveUp 53 = .ok (.ireturn, 1) := by decide +kernel
set_option maxRecDepth 20000 in
theorem ggX3_type_X0_append : GoodIn wsX3_type wsX0_append := goodIn_r _ [6, 7, 8, 15, 16, 17, 18, 19, 20] (by decide +kernel) (by decide +kernel)
set_option maxRecDepth 20000 in
theorem gX3_type_X0_append : GoodIn wsX3_type (wsV RX3 102 RX0 yX0_append wsX0_append) := goodIn_app (goodIn_of _ (by decide +kernel)) ggX3_type_X0_append
theorem dX3_type_0 : decode cX3_type 0 = .ok (.aload_n 0, 1) := by decide +kernel
theorem dX3_type_1 : decode cX3_type 1 = .ok (.getfield 32, 3) := by decide +kernel
theorem dX3_type_4 : decode cX3_type 4 = .ok (.iload_n 1, 1) := by decide +kernel
theorem dX3_type_5 : decode cX3_type 5 = .ok (.invokevirtual 102, 3) := by decide +kernel
theorem dX3_type_8 : decode cX3_type 8 = .ok (.ireturn, 1) := by decide +kernel
set_option maxRecDepth 20000 in
theorem ggX3_clearText_X0_empty : GoodIn wsX3_clearText wsX0_empty := goodIn_r _ [6, 7, 14, 15, 16, 17, 18, 19] (by decide +kernel) (by decide +kernel)
set_option maxRecDepth 20000 in
theorem gX3_clearText_X0_empty : GoodIn wsX3_clearText (wsV RX3 105 RX0 yX0_empty wsX0_empty) := goodIn_app (goodIn_of _ (by decide +kernel)) ggX3_clearText_X0_empty
theorem dX3_clearText_0 : decode cX3_clearText 0 = .ok (.aload_n 0, 1) := by decide +kernel
theorem dX3_clearText_1 : decode cX3_clearText 1 = .ok (.getfield 32, 3) := by decide +kernel
theorem dX3_clearText_4 : decode cX3_clearText 4 = .ok (.invokevirtual 105, 3) := by decide +kernel
theorem dX3_clearText_7 : decode cX3_clearText 7 = .ok (.ireturn, 1) := by decide +kernel
set_option maxRecDepth 20000 in
theorem ggX3_undo_X2_states : GoodIn wsX3_undo wsX2_states := goodIn_r _ [7, 8, 45, 46, 47] (by decide +kernel) (by decide +kernel)
set_option maxRecDepth 20000 in
theorem gX3_undo_X2_states : GoodIn wsX3_undo (wsV RX3 108 RX2 yX2_states wsX2_states) := goodIn_app (goodIn_of _ (by decide +kernel)) ggX3_undo_X2_states
set_option maxRecDepth 20000 in
theorem ggX3_undo_X2_takeBack : GoodIn wsX3_undo wsX2_takeBack := goodIn_r _ [12, 8, 13, 14, 15, 16, 17, 18, 19, 20, 21, 22, 23, 24, 25, 26, 27, 28, 29, 30, 31, 32, 33, 34, 35, 36, 37, 38, 45, 46, 47, 48, 49, 50, 51, 52, 53, 54, 55, 56, 57, 58, 59, 60, 61, 62] (by decide +kernel) (by decide +kernel)
set_option maxRecDepth 20000 in
theorem gX3_undo_X2_takeBack : GoodIn wsX3_undo (wsV RX3 111 RX2 yX2_takeBack wsX2_takeBack) := goodIn_app (goodIn_of _ (by decide +kernel)) ggX3_undo_X2_takeBack
theorem dX3_undo_0 : decode cX3_undo 0 = .ok (.aload_n 0, 1) := by decide +kernel
theorem dX3_undo_1 : decode cX3_undo 1 = .ok (.getfield 25, 3) := by decide +kernel
theorem dX3_undo_4 : decode cX3_undo 4 = .ok (.invokevirtual 108, 3) := by decide +kernel
theorem dX3_undo_7 : decode cX3_undo 7 = .ok (.ifCond .ne 6, 3) := by decide +kernel
theorem dX3_undo_10 : decode cX3_undo 10 = .ok (.bipush (-5), 2) := by decide +kernel
theorem dX3_undo_12 : decode cX3_undo 12 = .ok (.ireturn, 1) := by decide +kernel
theorem dX3_undo_13 : decode cX3_undo 13 = .ok (.aload_n 0, 1) := by decide +kernel
theorem dX3_undo_14 : decode cX3_undo 14 = .ok (.getfield 25, 3) := by decide +kernel
theorem dX3_undo_17 : decode cX3_undo 17 = .ok (.aload_n 0, 1) := by decide +kernel
theorem dX3_undo_18 : decode cX3_undo 18 = .ok (.getfield 12, 3) := by decide +kernel
theorem dX3_undo_21 : decode cX3_undo 21 = .ok (.invokevirtual 111, 3) := by decide +kernel
theorem dX3_undo_24 : decode cX3_undo 24 = .ok (.aload_n 0, 1) := by decide +kernel
theorem dX3_undo_25 : decode cX3_undo 25 = .ok (.getfield 25, 3) := by decide +kernel
theorem dX3_undo_28 : decode cX3_undo 28 = .ok (.invokevirtual 108, 3) := by decide +kernel
theorem dX3_undo_31 : decode cX3_undo 31 = .ok (.ireturn, 1) := by decide +kernel
set_option maxRecDepth 20000 in
theorem ggX3_keep_X1_takeOver : GoodIn wsX3_keep wsX1_takeOver := goodIn_r _ [8, 9, 10, 11, 12, 13, 14, 15, 16, 17, 18, 19, 20, 21, 22, 23, 24, 25, 26, 27, 38, 39, 40, 41, 42, 43, 44, 45, 46, 47, 48, 49, 50, 51, 52] (by decide +kernel) (by decide +kernel)
set_option maxRecDepth 20000 in
theorem gX3_keep_X1_takeOver : GoodIn wsX3_keep (wsV RX3 115 RX1 yX1_takeOver wsX1_takeOver) := goodIn_app (goodIn_of _ (by decide +kernel)) ggX3_keep_X1_takeOver
set_option maxRecDepth 20000 in
theorem ggX3_keep_X1_stepsSoFar : GoodIn wsX3_keep wsX1_stepsSoFar := goodIn_r _ [31, 23, 38, 39, 40, 41, 42, 43, 44, 45, 46, 47, 48, 49, 50, 51, 52] (by decide +kernel) (by decide +kernel)
set_option maxRecDepth 20000 in
theorem gX3_keep_X1_stepsSoFar : GoodIn wsX3_keep (wsV RX3 118 RX1 yX1_stepsSoFar wsX1_stepsSoFar) := goodIn_app (goodIn_of _ (by decide +kernel)) ggX3_keep_X1_stepsSoFar
theorem dX3_keep_0 : decode cX3_keep 0 = .ok (.aload_n 0, 1) := by decide +kernel
theorem dX3_keep_1 : decode cX3_keep 1 = .ok (.getfield 19, 3) := by decide +kernel
theorem dX3_keep_4 : decode cX3_keep 4 = .ok (.aload_n 0, 1) := by decide +kernel
theorem dX3_keep_5 : decode cX3_keep 5 = .ok (.getfield 12, 3) := by decide +kernel
theorem dX3_keep_8 : decode cX3_keep 8 = .ok (.invokevirtual 115, 3) := by decide +kernel
theorem dX3_keep_11 : decode cX3_keep 11 = .ok (.aload_n 0, 1) := by decide +kernel
theorem dX3_keep_12 : decode cX3_keep 12 = .ok (.iconst 1, 1) := by decide +kernel
theorem dX3_keep_13 : decode cX3_keep 13 = .ok (.putfield 36, 3) := by decide +kernel
theorem dX3_keep_16 : decode cX3_keep 16 = .ok (.aload_n 0, 1) := by decide +kernel
theorem dX3_keep_17 : decode cX3_keep 17 = .ok (.getfield 12, 3) := by decide +kernel
theorem dX3_keep_20 : decode cX3_keep 20 = .ok (.invokevirtual 118, 3) := by decide +kernel
theorem dX3_keep_23 : decode cX3_keep 23 = .ok (.ireturn, 1) := by decide +kernel
set_option maxRecDepth 20000 in
theorem ggX3_restore_X1_takeOver : GoodIn wsX3_restore wsX1_takeOver := goodIn_r _ [8, 9, 10, 11, 12, 13, 14, 15, 16, 17, 18, 19, 20, 21, 22, 23, 24, 25, 26, 27, 54, 55, 56, 57, 58, 59, 60, 61, 62, 63, 64, 65, 66, 67, 68] (by decide +kernel) (by decide +kernel)
set_option maxRecDepth 20000 in
theorem gX3_restore_X1_takeOver : GoodIn wsX3_restore (wsV RX3 115 RX1 yX1_takeOver wsX1_takeOver) := goodIn_app (goodIn_of _ (by decide +kernel)) ggX3_restore_X1_takeOver
set_option maxRecDepth 20000 in
theorem ggX3_restore_X1_stepsSoFar : GoodIn wsX3_restore wsX1_stepsSoFar := goodIn_r _ [31, 23, 54, 55, 56, 57, 58, 59, 60, 61, 62, 63, 64, 65, 66, 67, 68] (by decide +kernel) (by decide +kernel)
set_option maxRecDepth 20000 in
theorem gX3_restore_X1_stepsSoFar : GoodIn wsX3_restore (wsV RX3 118 RX1 yX1_stepsSoFar wsX1_stepsSoFar) := goodIn_app (goodIn_of _ (by decide +kernel)) ggX3_restore_X1_stepsSoFar
set_option maxRecDepth 20000 in
theorem ggX3_restore_X3_settle : GoodIn wsX3_restore wsX3_settle := goodIn_r _ [36, 37, 38, 2, 39, 40, 41, 42, 43, 44, 45, 46, 47, 5, 6, 7, 8, 9, 10, 11, 12, 13, 14, 15, 16, 17, 18, 19, 20, 21, 22, 23, 24, 25, 26, 27, 4, 48, 49, 50, 51, 52, 53, 69, 70, 71, 54, 55, 56, 57, 58, 59, 60, 61, 62, 63, 64, 65, 66, 67, 68] (by decide +kernel) (by decide +kernel)
set_option maxRecDepth 20000 in
theorem gX3_restore_X3_settle : GoodIn wsX3_restore (wsV RX3 47 RX3 yX3_settle wsX3_settle) := goodIn_app (goodIn_of _ (by decide +kernel)) ggX3_restore_X3_settle
theorem dX3_restore_0 : decode cX3_restore 0 = .ok (.aload_n 0, 1) := by decide +kernel
theorem dX3_restore_1 : decode cX3_restore 1 = .ok (.getfield 36, 3) := by decide +kernel
theorem dX3_restore_4 : decode cX3_restore 4 = .ok (.ifCond .ne 6, 3) := by decide +kernel
theorem dX3_restore_7 : decode cX3_restore 7 = .ok (.bipush (-5), 2) := by decide +kernel
theorem dX3_restore_9 : decode cX3_restore 9 = .ok (.ireturn, 1) := by decide +kernel
theorem dX3_restore_10 : decode cX3_restore 10 = .ok (.aload_n 0, 1) := by decide +kernel
theorem dX3_restore_11 : decode cX3_restore 11 = .ok (.getfield 16, 3) := by decide +kernel
theorem dX3_restore_14 : decode cX3_restore 14 = .ok (.aload_n 0, 1) := by decide +kernel
theorem dX3_restore_15 : decode cX3_restore 15 = .ok (.getfield 19, 3) := by decide +kernel
theorem dX3_restore_18 : decode cX3_restore 18 = .ok (.invokevirtual 115, 3) := by decide +kernel
theorem dX3_restore_21 : decode cX3_restore 21 = .ok (.aload_n 0, 1) := by decide +kernel
theorem dX3_restore_22 : decode cX3_restore 22 = .ok (.aload_n 0, 1) := by decide +kernel
theorem dX3_restore_23 : decode cX3_restore 23 = .ok (.getfield 16, 3) := by decide +kernel
theorem dX3_restore_26 : decode cX3_restore 26 = .ok (.invokevirtual 118, 3) := by decide +kernel
theorem dX3_restore_29 : decode cX3_restore 29 = .ok (.invokevirtual 47, 3) := by decide +kernel
theorem dX3_restore_32 : decode cX3_restore 32 = .ok (.ireturn, 1) := by decide +kernel
set_option maxRecDepth 20000 in
theorem ggX3_address_X1_isAddress : GoodIn wsX3_address wsX1_isAddress := goodIn_r _ [6, 7, 8, 9, 10, 11, 12, 13, 14, 73, 74, 75, 76, 77, 78, 79, 80, 81, 82, 83, 84, 85, 86, 87] (by decide +kernel) (by decide +kernel)
set_option maxRecDepth 20000 in
theorem gX3_address_X1_isAddress : GoodIn wsX3_address (wsV RX3 67 RX1 yX1_isAddress wsX1_isAddress) := goodIn_app (goodIn_of _ (by decide +kernel)) ggX3_address_X1_isAddress
set_option maxRecDepth 20000 in
theorem ggX3_address_X1_tellAddress : GoodIn wsX3_address wsX1_tellAddress := goodIn_r _ [18, 19, 20, 21, 22, 23, 24, 5, 25, 26, 27, 28, 29, 30, 31, 32, 33, 13, 9, 14, 34, 35, 36, 37, 38, 39, 40, 41, 7, 42, 43, 11, 12, 44, 45, 46, 47, 48, 49, 50, 51, 52, 53, 54, 55, 56, 57, 58, 59, 60, 61, 62, 63, 64, 65, 66, 73, 74, 75, 76, 77, 78, 79, 80, 81, 82, 83, 84, 85, 86, 87] (by decide +kernel) (by decide +kernel)
set_option maxRecDepth 20000 in
theorem gX3_address_X1_tellAddress : GoodIn wsX3_address (wsV RX3 121 RX1 yX1_tellAddress wsX1_tellAddress) := goodIn_app (goodIn_of _ (by decide +kernel)) ggX3_address_X1_tellAddress
theorem dX3_address_0 : decode cX3_address 0 = .ok (.aload_n 0, 1) := by decide +kernel
theorem dX3_address_1 : decode cX3_address 1 = .ok (.getfield 12, 3) := by decide +kernel
theorem dX3_address_4 : decode cX3_address 4 = .ok (.iload_n 1, 1) := by decide +kernel
theorem dX3_address_5 : decode cX3_address 5 = .ok (.invokevirtual 67, 3) := by decide +kernel
theorem dX3_address_8 : decode cX3_address 8 = .ok (.ifCond .eq 15, 3) := by decide +kernel
theorem dX3_address_11 : decode cX3_address 11 = .ok (.aload_n 0, 1) := by decide +kernel
theorem dX3_address_12 : decode cX3_address 12 = .ok (.getfield 12, 3) := by decide +kernel
theorem dX3_address_15 : decode cX3_address 15 = .ok (.iload_n 1, 1) := by decide +kernel
theorem dX3_address_16 : decode cX3_address 16 = .ok (.iload_n 2, 1) := by decide +kernel
theorem dX3_address_17 : decode cX3_address 17 = .ok (.invokevirtual 121, 3) := by decide +kernel
theorem dX3_address_20 : decode cX3_address 20 = .ok (.goto 4, 3) := by decide +kernel
theorem dX3_address_23 : decode cX3_address 23 = .ok (.iconst (-1), 1) := by decide +kernel
theorem dX3_address_24 : decode cX3_address 24 = .ok (.ireturn, 1) := by decide +kernel
set_option maxRecDepth 20000 in
theorem ggX3_sector_X3_isSector : GoodIn wsX3_sector wsX3_isSector := goodIn_r _ [5] (by decide +kernel) (by decide +kernel)
set_option maxRecDepth 20000 in
theorem gX3_sector_X3_isSector : GoodIn wsX3_sector (va_wsS RX3 124 yX3_isSector wsX3_isSector) := goodIn_app (goodIn_of _ (by decide +kernel)) ggX3_sector_X3_isSector
set_option maxRecDepth 20000 in
theorem ggX3_sector_X1_tellSector : GoodIn wsX3_sector wsX1_tellSector := goodIn_r _ [10, 11, 12, 13, 14, 15, 9, 16, 17, 18, 19, 20, 21, 22, 23, 24, 25, 26, 27, 28, 29, 30, 3, 4, 5, 31, 32, 33, 34, 35, 36, 37, 38, 39, 46, 47, 48, 49, 50, 51, 52, 53, 54, 55, 56, 57, 58, 59, 60] (by decide +kernel) (by decide +kernel)
set_option maxRecDepth 20000 in
theorem gX3_sector_X1_tellSector : GoodIn wsX3_sector (wsV RX3 127 RX1 yX1_tellSector wsX1_tellSector) := goodIn_app (goodIn_of _ (by decide +kernel)) ggX3_sector_X1_tellSector
theorem dX3_sector_0 : decode cX3_sector 0 = .ok (.iload_n 1, 1) := by decide +kernel
theorem dX3_sector_1 : decode cX3_sector 1 = .ok (.invokestatic 124, 3) := by decide +kernel
theorem dX3_sector_4 : decode cX3_sector 4 = .ok (.ifCond .eq 15, 3) := by decide +kernel
theorem dX3_sector_7 : decode cX3_sector 7 = .ok (.aload_n 0, 1) := by decide +kernel
theorem dX3_sector_8 : decode cX3_sector 8 = .ok (.getfield 12, 3) := by decide +kernel
theorem dX3_sector_11 : decode cX3_sector 11 = .ok (.iload_n 1, 1) := by decide +kernel
theorem dX3_sector_12 : decode cX3_sector 12 = .ok (.iload_n 2, 1) := by decide +kernel
theorem dX3_sector_13 : decode cX3_sector 13 = .ok (.invokevirtual 127, 3) := by decide +kernel
theorem dX3_sector_16 : decode cX3_sector 16 = .ok (.goto 4, 3) := by decide +kernel
theorem dX3_sector_19 : decode cX3_sector 19 = .ok (.iconst (-1), 1) := by decide +kernel
theorem dX3_sector_20 : decode cX3_sector 20 = .ok (.ireturn, 1) := by decide +kernel
set_option maxRecDepth 20000 in
theorem ggX3_head_X3_isHead : GoodIn wsX3_head wsX3_isHead := goodIn_r _ [5] (by decide +kernel) (by decide +kernel)
set_option maxRecDepth 20000 in
theorem gX3_head_X3_isHead : GoodIn wsX3_head (va_wsS RX3 50 yX3_isHead wsX3_isHead) := goodIn_app (goodIn_of _ (by decide +kernel)) ggX3_head_X3_isHead
set_option maxRecDepth 20000 in
theorem ggX3_head_X1_tellHead : GoodIn wsX3_head wsX1_tellHead := goodIn_r _ [10, 11, 12, 13, 14, 15, 16, 17, 18, 9, 19, 20, 21, 22, 23, 24, 4, 25, 26, 27, 28, 29, 30, 31, 32, 33, 34, 35, 36, 37, 38, 39, 40, 41, 42, 43, 44, 45, 46, 47, 48, 49, 50, 51, 52, 53, 54, 55, 56, 57, 58, 59, 60, 61, 68, 69, 70, 71, 72, 73, 74, 75, 76, 77, 78, 79, 80, 81, 82] (by decide +kernel) (by decide +kernel)
set_option maxRecDepth 20000 in
theorem gX3_head_X1_tellHead : GoodIn wsX3_head (wsV RX3 130 RX1 yX1_tellHead wsX1_tellHead) := goodIn_app (goodIn_of _ (by decide +kernel)) ggX3_head_X1_tellHead
theorem dX3_head_0 : decode cX3_head 0 = .ok (.iload_n 1, 1) := by decide +kernel
theorem dX3_head_1 : decode cX3_head 1 = .ok (.invokestatic 50, 3) := by decide +kernel
theorem dX3_head_4 : decode cX3_head 4 = .ok (.ifCond .eq 15, 3) := by decide +kernel
theorem dX3_head_7 : decode cX3_head 7 = .ok (.aload_n 0, 1) := by decide +kernel
theorem dX3_head_8 : decode cX3_head 8 = .ok (.getfield 12, 3) := by decide +kernel
theorem dX3_head_11 : decode cX3_head 11 = .ok (.iload_n 1, 1) := by decide +kernel
theorem dX3_head_12 : decode cX3_head 12 = .ok (.iload_n 2, 1) := by decide +kernel
theorem dX3_head_13 : decode cX3_head 13 = .ok (.invokevirtual 130, 3) := by decide +kernel
theorem dX3_head_16 : decode cX3_head 16 = .ok (.goto 4, 3) := by decide +kernel
theorem dX3_head_19 : decode cX3_head 19 = .ok (.iconst (-1), 1) := by decide +kernel
theorem dX3_head_20 : decode cX3_head 20 = .ok (.ireturn, 1) := by decide +kernel
set_option maxRecDepth 20000 in
theorem ggX3_readsLeft_X1_readsUntilChange : GoodIn wsX3_readsLeft wsX1_readsUntilChange := goodIn_r _ [6, 7, 8, 9, 10, 11, 12, 13, 5, 14, 15, 16, 17, 18, 19, 20, 21, 22, 23, 24, 25, 26, 27, 28, 29, 30, 31, 32, 33, 34, 35, 36, 37, 38, 39, 40, 41, 42, 43, 44, 45, 46, 47, 48, 55, 56, 57, 58, 59, 60, 61, 62, 63, 64, 65, 66, 67, 68, 69] (by decide +kernel) (by decide +kernel)
set_option maxRecDepth 20000 in
theorem gX3_readsLeft_X1_readsUntilChange : GoodIn wsX3_readsLeft (wsV RX3 133 RX1 yX1_readsUntilChange wsX1_readsUntilChange) := goodIn_app (goodIn_of _ (by decide +kernel)) ggX3_readsLeft_X1_readsUntilChange
theorem dX3_readsLeft_0 : decode cX3_readsLeft 0 = .ok (.aload_n 0, 1) := by decide +kernel
theorem dX3_readsLeft_1 : decode cX3_readsLeft 1 = .ok (.getfield 12, 3) := by decide +kernel
theorem dX3_readsLeft_4 : decode cX3_readsLeft 4 = .ok (.iload_n 1, 1) := by decide +kernel
theorem dX3_readsLeft_5 : decode cX3_readsLeft 5 = .ok (.invokevirtual 133, 3) := by decide +kernel
theorem dX3_readsLeft_8 : decode cX3_readsLeft 8 = .ok (.ireturn, 1) := by decide +kernel
set_option maxRecDepth 20000 in
theorem ggX3_wouldLose_X3_isHead : GoodIn wsX3_wouldLose wsX3_isHead := goodIn_r _ [6] (by decide +kernel) (by decide +kernel)
set_option maxRecDepth 20000 in
theorem gX3_wouldLose_X3_isHead : GoodIn wsX3_wouldLose (va_wsS RX3 50 yX3_isHead wsX3_isHead) := goodIn_app (goodIn_of _ (by decide +kernel)) ggX3_wouldLose_X3_isHead
set_option maxRecDepth 20000 in
theorem ggX3_wouldLose_X1_isGivenUp : GoodIn wsX3_wouldLose wsX1_isGivenUp := goodIn_r _ [11, 12, 103, 104, 105, 106, 107, 108, 109, 110, 111, 112, 113, 114, 115, 116, 117] (by decide +kernel) (by decide +kernel)
set_option maxRecDepth 20000 in
theorem gX3_wouldLose_X1_isGivenUp : GoodIn wsX3_wouldLose (wsV RX3 96 RX1 yX1_isGivenUp wsX1_isGivenUp) := goodIn_app (goodIn_of _ (by decide +kernel)) ggX3_wouldLose_X1_isGivenUp
set_option maxRecDepth 20000 in
theorem ggX3_wouldLose_X3_startTrial : GoodIn wsX3_wouldLose wsX3_startTrial := goodIn_r _ [16, 2, 1, 17, 18, 19, 10, 20, 21, 22, 23, 24, 25, 26, 27, 12, 28, 29, 30, 31, 32, 33, 34, 35, 36, 37, 38, 97, 98, 99, 100, 101, 102, 103, 104, 105, 106, 107, 108, 109, 110, 111, 112, 113, 114, 115, 116, 117] (by decide +kernel) (by decide +kernel)
set_option maxRecDepth 20000 in
theorem gX3_wouldLose_X3_startTrial : GoodIn wsX3_wouldLose (wsV RX3 40 RX3 yX3_startTrial wsX3_startTrial) := goodIn_app (goodIn_of _ (by decide +kernel)) ggX3_wouldLose_X3_startTrial
set_option maxRecDepth 20000 in
theorem ggX3_wouldLose_X1_vacate : GoodIn wsX3_wouldLose wsX1_vacate := goodIn_r _ [42, 36, 12, 31, 43, 44, 45, 10, 46, 27, 47, 5, 48, 49, 50, 51, 52, 53, 54, 55, 56, 57, 58, 59, 60, 61, 62, 63, 64, 65, 66, 67, 68, 69, 70, 71, 72, 32, 73, 74, 75, 76, 28, 21, 77, 78, 79, 80, 81, 82, 83, 84, 85, 86, 87, 88, 89, 90, 91, 92, 93, 94, 95, 96, 22, 103, 104, 105, 106, 107, 108, 109, 110, 111, 112, 113, 114, 115, 116, 117] (by decide +kernel) (by decide +kernel)
set_option maxRecDepth 20000 in
theorem gX3_wouldLose_X1_vacate : GoodIn wsX3_wouldLose (wsV RX3 99 RX1 yX1_vacate wsX1_vacate) := goodIn_app (goodIn_of _ (by decide +kernel)) ggX3_wouldLose_X1_vacate
theorem dX3_wouldLose_0 : decode cX3_wouldLose 0 = .ok (.iload_n 1, 1) := by decide +kernel
theorem dX3_wouldLose_1 : decode cX3_wouldLose 1 = .ok (.invokestatic 50, 3) := by decide +kernel
theorem dX3_wouldLose_4 : decode cX3_wouldLose 4 = .ok (.ifCond .ne 5, 3) := by decide +kernel
theorem dX3_wouldLose_7 : decode cX3_wouldLose 7 = .ok (.iconst (-1), 1) := by decide +kernel
theorem dX3_wouldLose_8 : decode cX3_wouldLose 8 = .ok (.ireturn, 1) := by decide +kernel
theorem dX3_wouldLose_9 : decode cX3_wouldLose 9 = .ok (.aload_n 0, 1) := by decide +kernel
theorem dX3_wouldLose_10 : decode cX3_wouldLose 10 = .ok (.getfield 12, 3) := by decide +kernel
theorem dX3_wouldLose_13 : decode cX3_wouldLose 13 = .ok (.iload_n 1, 1) := by decide +kernel
theorem dX3_wouldLose_14 : decode cX3_wouldLose 14 = .ok (.invokevirtual 96, 3) := by decide +kernel
theorem dX3_wouldLose_17 : decode cX3_wouldLose 17 = .ok (.ifCond .eq 6, 3) := by decide +kernel
theorem dX3_wouldLose_20 : decode cX3_wouldLose 20 = .ok (.bipush (-5), 2) := by decide +kernel
theorem dX3_wouldLose_22 : decode cX3_wouldLose 22 = .ok (.ireturn, 1) := by decide +kernel
theorem dX3_wouldLose_23 : decode cX3_wouldLose 23 = .ok (.aload_n 0, 1) := by decide +kernel
theorem dX3_wouldLose_24 : decode cX3_wouldLose 24 = .ok (.invokevirtual 40, 3) := by decide +kernel
theorem dX3_wouldLose_27 : decode cX3_wouldLose 27 = .ok (.aload_n 0, 1) := by decide +kernel
theorem dX3_wouldLose_28 : decode cX3_wouldLose 28 = .ok (.getfield 16, 3) := by decide +kernel
theorem dX3_wouldLose_31 : decode cX3_wouldLose 31 = .ok (.iload_n 1, 1) := by decide +kernel
theorem dX3_wouldLose_32 : decode cX3_wouldLose 32 = .ok (.invokevirtual 99, 3) := by decide +kernel
theorem dX3_wouldLose_35 : decode cX3_wouldLose 35 = .ok (.ireturn, 1) := by decide +kernel
set_option maxRecDepth 20000 in
theorem ggX3_worst_X1_addressOfRank : GoodIn wsX3_worst wsX1_addressOfRank := goodIn_r _ [6, 7, 8, 9, 5, 10, 11, 12, 13, 14, 15, 16, 17, 18, 19, 20, 21, 22, 23, 24, 25, 26, 27, 28, 29, 30, 31, 32, 39, 40, 41, 42, 43, 44, 45, 46, 47, 48, 49, 50, 51, 52, 53] (by decide +kernel) (by decide +kernel)
set_option maxRecDepth 20000 in
theorem gX3_worst_X1_addressOfRank : GoodIn wsX3_worst (wsV RX3 136 RX1 yX1_addressOfRank wsX1_addressOfRank) := goodIn_app (goodIn_of _ (by decide +kernel)) ggX3_worst_X1_addressOfRank
theorem dX3_worst_0 : decode cX3_worst 0 = .ok (.iload_n 1, 1) := by decide +kernel
theorem dX3_worst_1 : decode cX3_worst 1 = .ok (.ifCond .ge 8, 3) := by decide +kernel
theorem dX3_worst_4 : decode cX3_worst 4 = .ok (.bipush (-2), 2) := by decide +kernel
theorem dX3_worst_6 : decode cX3_worst 6 = .ok (.goto 11, 3) := by decide +kernel
theorem dX3_worst_9 : decode cX3_worst 9 = .ok (.aload_n 0, 1) := by decide +kernel
theorem dX3_worst_10 : decode cX3_worst 10 = .ok (.getfield 12, 3) := by decide +kernel
theorem dX3_worst_13 : decode cX3_worst 13 = .ok (.iload_n 1, 1) := by decide +kernel
theorem dX3_worst_14 : decode cX3_worst 14 = .ok (.invokevirtual 136, 3) := by decide +kernel
theorem dX3_worst_17 : decode cX3_worst 17 = .ok (.ireturn, 1) := by decide +kernel
set_option maxRecDepth 20000 in
theorem ggX3_count_X2_states : GoodIn wsX3_count wsX2_states := goodIn_r _ [8, 9, 107, 108, 109] (by decide +kernel) (by decide +kernel)
set_option maxRecDepth 20000 in
theorem gX3_count_X2_states : GoodIn wsX3_count (wsV RX3 108 RX2 yX2_states wsX2_states) := goodIn_app (goodIn_of _ (by decide +kernel)) ggX3_count_X2_states
set_option maxRecDepth 20000 in
theorem ggX3_count_X0_length : GoodIn wsX3_count wsX0_length := goodIn_r _ [14, 15, 110, 111, 112, 113, 114, 115] (by decide +kernel) (by decide +kernel)
set_option maxRecDepth 20000 in
theorem gX3_count_X0_length : GoodIn wsX3_count (wsV RX3 139 RX0 yX0_length wsX0_length) := goodIn_app (goodIn_of _ (by decide +kernel)) ggX3_count_X0_length
set_option maxRecDepth 20000 in
theorem ggX3_count_X1_tellWhole : GoodIn wsX3_count wsX1_tellWhole := goodIn_r _ [20, 21, 22, 23, 24, 25, 26, 27, 28, 29, 30, 19, 31, 32, 33, 34, 35, 36, 37, 38, 39, 40, 41, 42, 43, 44, 45, 46, 47, 48, 49, 50, 51, 52, 53, 54, 55, 56, 57, 58, 59, 60, 61, 62, 63, 64, 65, 66, 67, 68, 69, 70, 71, 72, 73, 74, 75, 76, 77, 78, 79, 80, 81, 82, 83, 84, 85, 86, 87, 88, 89, 90, 91, 92, 93, 94, 95, 96, 97, 98, 99, 100, 116, 117, 118, 119, 120, 121, 122, 123, 124, 125, 126, 127, 128, 129, 130] (by decide +kernel) (by decide +kernel)
set_option maxRecDepth 20000 in
theorem gX3_count_X1_tellWhole : GoodIn wsX3_count (wsV RX3 142 RX1 yX1_tellWhole wsX1_tellWhole) := goodIn_app (goodIn_of _ (by decide +kernel)) ggX3_count_X1_tellWhole
theorem dX3_count_0 : decode cX3_count 0 = .ok (.iload_n 1, 1) := by decide +kernel
theorem dX3_count_1 : decode cX3_count 1 = .ok (.lookupswitch 43 #[(12, 27), (13, 35)], 27) := by decide +kernel
theorem dX3_count_28 : decode cX3_count 28 = .ok (.aload_n 0, 1) := by decide +kernel
theorem dX3_count_29 : decode cX3_count 29 = .ok (.getfield 25, 3) := by decide +kernel
theorem dX3_count_32 : decode cX3_count 32 = .ok (.invokevirtual 108, 3) := by decide +kernel
theorem dX3_count_35 : decode cX3_count 35 = .ok (.ireturn, 1) := by decide +kernel
theorem dX3_count_36 : decode cX3_count 36 = .ok (.aload_n 0, 1) := by decide +kernel
theorem dX3_count_37 : decode cX3_count 37 = .ok (.getfield 32, 3) := by decide +kernel
theorem dX3_count_40 : decode cX3_count 40 = .ok (.invokevirtual 139, 3) := by decide +kernel
theorem dX3_count_43 : decode cX3_count 43 = .ok (.ireturn, 1) := by decide +kernel
theorem dX3_count_44 : decode cX3_count 44 = .ok (.aload_n 0, 1) := by decide +kernel
theorem dX3_count_45 : decode cX3_count 45 = .ok (.getfield 12, 3) := by decide +kernel
theorem dX3_count_48 : decode cX3_count 48 = .ok (.iload_n 1, 1) := by decide +kernel
theorem dX3_count_49 : decode cX3_count 49 = .ok (.invokevirtual 142, 3) := by decide +kernel
theorem dX3_count_52 : decode cX3_count 52 = .ok (.ireturn, 1) := by decide +kernel
set_option maxRecDepth 20000 in
theorem ggX3_startTrial_X1_takeOver : GoodIn wsX3_startTrial wsX1_takeOver := goodIn_r _ [7, 8, 9, 10, 11, 12, 13, 14, 15, 16, 17, 18, 19, 20, 21, 22, 23, 24, 25, 26, 33, 34, 35, 36, 37, 38, 39, 40, 41, 42, 43, 44, 45, 46, 47] (by decide +kernel) (by decide +kernel)
set_option maxRecDepth 20000 in
theorem gX3_startTrial_X1_takeOver : GoodIn wsX3_startTrial (wsV RX3 115 RX1 yX1_takeOver wsX1_takeOver) := goodIn_app (goodIn_of _ (by decide +kernel)) ggX3_startTrial_X1_takeOver
theorem dX3_startTrial_0 : decode cX3_startTrial 0 = .ok (.aload_n 0, 1) := by decide +kernel
theorem dX3_startTrial_1 : decode cX3_startTrial 1 = .ok (.getfield 16, 3) := by decide +kernel
theorem dX3_startTrial_4 : decode cX3_startTrial 4 = .ok (.aload_n 0, 1) := by decide +kernel
theorem dX3_startTrial_5 : decode cX3_startTrial 5 = .ok (.getfield 12, 3) := by decide +kernel
theorem dX3_startTrial_8 : decode cX3_startTrial 8 = .ok (.invokevirtual 115, 3) := by decide +kernel
theorem dX3_startTrial_11 : decode cX3_startTrial 11 = .ok (.return_, 1) := by decide +kernel
set_option maxRecDepth 20000 in
theorem ggX3_settle_X2_record : GoodIn wsX3_settle wsX2_record := goodIn_r _ [8, 9, 10, 11, 12, 13, 14, 15, 16, 17, 18, 19, 20, 21, 22, 23, 24, 25, 26, 27, 28, 29, 30, 31, 32, 33, 34, 35, 43, 44, 45, 46, 47, 48, 49, 50, 51, 52, 53, 54, 55, 56, 57, 58, 59, 60] (by decide +kernel) (by decide +kernel)
set_option maxRecDepth 20000 in
theorem gX3_settle_X2_record : GoodIn wsX3_settle (wsV RX3 145 RX2 yX2_record wsX2_record) := goodIn_app (goodIn_of _ (by decide +kernel)) ggX3_settle_X2_record
set_option maxRecDepth 20000 in
theorem ggX3_settle_X1_takeOver : GoodIn wsX3_settle wsX1_takeOver := goodIn_r _ [16, 17, 18, 19, 20, 21, 22, 23, 24, 25, 26, 27, 28, 29, 30, 31, 32, 33, 34, 35, 46, 47, 48, 49, 50, 51, 52, 53, 54, 55, 56, 57, 58, 59, 60] (by decide +kernel) (by decide +kernel)
set_option maxRecDepth 20000 in
theorem gX3_settle_X1_takeOver : GoodIn wsX3_settle (wsV RX3 115 RX1 yX1_takeOver wsX1_takeOver) := goodIn_app (goodIn_of _ (by decide +kernel)) ggX3_settle_X1_takeOver
theorem dX3_settle_0 : decode cX3_settle 0 = .ok (.iload_n 1, 1) := by decide +kernel
theorem dX3_settle_1 : decode cX3_settle 1 = .ok (.ifCond .lt 25, 3) := by decide +kernel
theorem dX3_settle_4 : decode cX3_settle 4 = .ok (.aload_n 0, 1) := by decide +kernel
theorem dX3_settle_5 : decode cX3_settle 5 = .ok (.getfield 25, 3) := by decide +kernel
theorem dX3_settle_8 : decode cX3_settle 8 = .ok (.aload_n 0, 1) := by decide +kernel
theorem dX3_settle_9 : decode cX3_settle 9 = .ok (.getfield 12, 3) := by decide +kernel
theorem dX3_settle_12 : decode cX3_settle 12 = .ok (.invokevirtual 145, 3) := by decide +kernel
theorem dX3_settle_15 : decode cX3_settle 15 = .ok (.aload_n 0, 1) := by decide +kernel
theorem dX3_settle_16 : decode cX3_settle 16 = .ok (.getfield 12, 3) := by decide +kernel
theorem dX3_settle_19 : decode cX3_settle 19 = .ok (.aload_n 0, 1) := by decide +kernel
theorem dX3_settle_20 : decode cX3_settle 20 = .ok (.getfield 16, 3) := by decide +kernel
theorem dX3_settle_23 : decode cX3_settle 23 = .ok (.invokevirtual 115, 3) := by decide +kernel
theorem dX3_settle_26 : decode cX3_settle 26 = .ok (.iload_n 1, 1) := by decide +kernel
theorem dX3_settle_27 : decode cX3_settle 27 = .ok (.ireturn, 1) := by decide +kernel
theorem dX3_isHead_0 : decode cX3_isHead 0 = .ok (.iload_n 0, 1) := by decide +kernel
theorem dX3_isHead_1 : decode cX3_isHead 1 = .ok (.ifCond .lt 12, 3) := by decide +kernel
theorem dX3_isHead_4 : decode cX3_isHead 4 = .ok (.iload_n 0, 1) := by decide +kernel
theorem dX3_isHead_5 : decode cX3_isHead 5 = .ok (.iconst 4, 1) := by decide +kernel
theorem dX3_isHead_6 : decode cX3_isHead 6 = .ok (.if_icmp .ge 7, 3) := by decide +kernel
theorem dX3_isHead_9 : decode cX3_isHead 9 = .ok (.iconst 1, 1) := by decide +kernel
theorem dX3_isHead_10 : decode cX3_isHead 10 = .ok (.goto 4, 3) := by decide +kernel
theorem dX3_isHead_13 : decode cX3_isHead 13 = .ok (.iconst 0, 1) := by decide +kernel
theorem dX3_isHead_14 : decode cX3_isHead 14 = .ok (.ireturn, 1) := by decide +kernel
theorem dX3_isSector_0 : decode cX3_isSector 0 = .ok (.iload_n 0, 1) := by decide +kernel
theorem dX3_isSector_1 : decode cX3_isSector 1 = .ok (.ifCond .lt 13, 3) := by decide +kernel
theorem dX3_isSector_4 : decode cX3_isSector 4 = .ok (.iload_n 0, 1) := by decide +kernel
theorem dX3_isSector_5 : decode cX3_isSector 5 = .ok (.bipush 64, 2) := by decide +kernel
theorem dX3_isSector_7 : decode cX3_isSector 7 = .ok (.if_icmp .ge 7, 3) := by decide +kernel
theorem dX3_isSector_10 : decode cX3_isSector 10 = .ok (.iconst 1, 1) := by decide +kernel
theorem dX3_isSector_11 : decode cX3_isSector 11 = .ok (.goto 4, 3) := by decide +kernel
theorem dX3_isSector_14 : decode cX3_isSector 14 = .ok (.iconst 0, 1) := by decide +kernel
theorem dX3_isSector_15 : decode cX3_isSector 15 = .ok (.ireturn, 1) := by decide +kernel
theorem dX3_headOf_0 : decode cX3_headOf 0 = .ok (.iload_n 0, 1) := by decide +kernel
theorem dX3_headOf_1 : decode cX3_headOf 1 = .ok (.bipush 16, 2) := by decide +kernel
theorem dX3_headOf_3 : decode cX3_headOf 3 = .ok (.idiv, 1) := by decide +kernel
theorem dX3_headOf_4 : decode cX3_headOf 4 = .ok (.ireturn, 1) := by decide +kernel
theorem dX3_placeOf_0 : decode cX3_placeOf 0 = .ok (.iload_n 0, 1) := by decide +kernel
theorem dX3_placeOf_1 : decode cX3_placeOf 1 = .ok (.bipush 16, 2) := by decide +kernel
theorem dX3_placeOf_3 : decode cX3_placeOf 3 = .ok (.irem, 1) := by decide +kernel
theorem dX3_placeOf_4 : decode cX3_placeOf 4 = .ok (.ireturn, 1) := by decide +kernel
set_option maxRecDepth 20000 in
theorem ggX3_stepsBetween_X3_placeOf : GoodIn wsX3_stepsBetween wsX3_placeOf := goodIn_r _ [8] (by decide +kernel) (by decide +kernel)
set_option maxRecDepth 20000 in
theorem gX3_stepsBetween_X3_placeOf : GoodIn wsX3_stepsBetween (va_wsS RX3 148 yX3_placeOf wsX3_placeOf) := goodIn_app (goodIn_of _ (by decide +kernel)) ggX3_stepsBetween_X3_placeOf
set_option maxRecDepth 20000 in
theorem ggX3_stepsBetween_X3_headOf : GoodIn wsX3_stepsBetween wsX3_headOf := goodIn_r _ [11] (by decide +kernel) (by decide +kernel)
set_option maxRecDepth 20000 in
theorem gX3_stepsBetween_X3_headOf : GoodIn wsX3_stepsBetween (va_wsS RX3 156 yX3_headOf wsX3_headOf) := goodIn_app (goodIn_of _ (by decide +kernel)) ggX3_stepsBetween_X3_headOf
theorem dX3_stepsBetween_0 : decode cX3_stepsBetween 0 = .ok (.iload_n 0, 1) := by decide +kernel
theorem dX3_stepsBetween_1 : decode cX3_stepsBetween 1 = .ok (.invokestatic 148, 3) := by decide +kernel
theorem dX3_stepsBetween_4 : decode cX3_stepsBetween 4 = .ok (.iload_n 1, 1) := by decide +kernel
theorem dX3_stepsBetween_5 : decode cX3_stepsBetween 5 = .ok (.invokestatic 148, 3) := by decide +kernel
theorem dX3_stepsBetween_8 : decode cX3_stepsBetween 8 = .ok (.isub, 1) := by decide +kernel
theorem dX3_stepsBetween_9 : decode cX3_stepsBetween 9 = .ok (.invokestatic 151, 3) := by decide +kernel
theorem dX3_stepsBetween_12 : decode cX3_stepsBetween 12 = .ok (.istore_n 2, 1) := by decide +kernel
theorem dX3_stepsBetween_13 : decode cX3_stepsBetween 13 = .ok (.iload_n 0, 1) := by decide +kernel
theorem dX3_stepsBetween_14 : decode cX3_stepsBetween 14 = .ok (.invokestatic 156, 3) := by decide +kernel
theorem dX3_stepsBetween_17 : decode cX3_stepsBetween 17 = .ok (.iload_n 1, 1) := by decide +kernel
theorem dX3_stepsBetween_18 : decode cX3_stepsBetween 18 = .ok (.invokestatic 156, 3) := by decide +kernel
theorem dX3_stepsBetween_21 : decode cX3_stepsBetween 21 = .ok (.if_icmp .ne 7, 3) := by decide +kernel
theorem dX3_stepsBetween_24 : decode cX3_stepsBetween 24 = .ok (.iload_n 2, 1) := by decide +kernel
theorem dX3_stepsBetween_25 : decode cX3_stepsBetween 25 = .ok (.goto 6, 3) := by decide +kernel
theorem dX3_stepsBetween_28 : decode cX3_stepsBetween 28 = .ok (.iload_n 2, 1) := by decide +kernel
theorem dX3_stepsBetween_29 : decode cX3_stepsBetween 29 = .ok (.iconst 2, 1) := by decide +kernel
theorem dX3_stepsBetween_30 : decode cX3_stepsBetween 30 = .ok (.iadd, 1) := by decide +kernel
theorem dX3_stepsBetween_31 : decode cX3_stepsBetween 31 = .ok (.ireturn, 1) := by decide +kernel
theorem dX4_init_0 : decode cX4_init 0 = .ok (.aload_n 0, 1) := by decide +kernel
theorem dX4_init_1 : decode cX4_init 1 = .ok (.invokespecial 1, 3) := by decide +kernel
theorem dX4_init_4 : decode cX4_init 4 = .ok (.aload_n 0, 1) := by decide +kernel
theorem dX4_init_5 : decode cX4_init 5 = .ok (.sipush 276, 3) := by decide +kernel
theorem dX4_init_8 : decode cX4_init 8 = .ok (.newarray .int, 2) := by decide +kernel
theorem dX4_init_10 : decode cX4_init 10 = .ok (.putfield 7, 3) := by decide +kernel
theorem dX4_init_13 : decode cX4_init 13 = .ok (.aload_n 0, 1) := by decide +kernel
theorem dX4_init_14 : decode cX4_init 14 = .ok (.sipush 276, 3) := by decide +kernel
theorem dX4_init_17 : decode cX4_init 17 = .ok (.newarray .int, 2) := by decide +kernel
theorem dX4_init_19 : decode cX4_init 19 = .ok (.putfield 13, 3) := by decide +kernel
theorem dX4_init_22 : decode cX4_init 22 = .ok (.aload_n 0, 1) := by decide +kernel
theorem dX4_init_23 : decode cX4_init 23 = .ok (.sipush 276, 3) := by decide +kernel
theorem dX4_init_26 : decode cX4_init 26 = .ok (.newarray .int, 2) := by decide +kernel
theorem dX4_init_28 : decode cX4_init 28 = .ok (.putfield 16, 3) := by decide +kernel
theorem dX4_init_31 : decode cX4_init 31 = .ok (.aload_n 0, 1) := by decide +kernel
theorem dX4_init_32 : decode cX4_init 32 = .ok (.sipush 276, 3) := by decide +kernel
theorem dX4_init_35 : decode cX4_init 35 = .ok (.newarray .int, 2) := by decide +kernel
theorem dX4_init_37 : decode cX4_init 37 = .ok (.putfield 19, 3) := by decide +kernel
theorem dX4_init_40 : decode cX4_init 40 = .ok (.aload_n 0, 1) := by decide +kernel
theorem dX4_init_41 : decode cX4_init 41 = .ok (.sipush 1104, 3) := by decide +kernel
theorem dX4_init_44 : decode cX4_init 44 = .ok (.newarray .int, 2) := by decide +kernel
theorem dX4_init_46 : decode cX4_init 46 = .ok (.putfield 22, 3) := by decide +kernel
theorem dX4_init_49 : decode cX4_init 49 = .ok (.aload_n 0, 1) := by decide +kernel
theorem dX4_init_50 : decode cX4_init 50 = .ok (.bipush 60, 2) := by decide +kernel
theorem dX4_init_52 : decode cX4_init 52 = .ok (.newarray .int, 2) := by decide +kernel
theorem dX4_init_54 : decode cX4_init 54 = .ok (.putfield 25, 3) := by decide +kernel
theorem dX4_init_57 : decode cX4_init 57 = .ok (.aload_n 0, 1) := by decide +kernel
theorem dX4_init_58 : decode cX4_init 58 = .ok (.getfield 7, 3) := by decide +kernel
theorem dX4_init_61 : decode cX4_init 61 = .ok (.iconst 0, 1) := by decide +kernel
theorem dX4_init_62 : decode cX4_init 62 = .ok (.bipush 30, 2) := by decide +kernel
theorem dX4_init_64 : decode cX4_init 64 = .ok (.iastore, 1) := by decide +kernel
theorem dX4_init_65 : decode cX4_init 65 = .ok (.iconst 0, 1) := by decide +kernel
theorem dX4_init_66 : decode cX4_init 66 = .ok (.istore_n 1, 1) := by decide +kernel
theorem dX4_init_67 : decode cX4_init 67 = .ok (.iload_n 1, 1) := by decide +kernel
theorem dX4_init_68 : decode cX4_init 68 = .ok (.iconst 4, 1) := by decide +kernel
theorem dX4_init_69 : decode cX4_init 69 = .ok (.if_icmp .ge 31, 3) := by decide +kernel
theorem dX4_init_72 : decode cX4_init 72 = .ok (.aload_n 0, 1) := by decide +kernel
theorem dX4_init_73 : decode cX4_init 73 = .ok (.getfield 7, 3) := by decide +kernel
theorem dX4_init_76 : decode cX4_init 76 = .ok (.bipush 8, 2) := by decide +kernel
theorem dX4_init_78 : decode cX4_init 78 = .ok (.iload_n 1, 1) := by decide +kernel
theorem dX4_init_79 : decode cX4_init 79 = .ok (.iadd, 1) := by decide +kernel
theorem dX4_init_80 : decode cX4_init 80 = .ok (.iload_n 1, 1) := by decide +kernel
theorem dX4_init_81 : decode cX4_init 81 = .ok (.iconst 1, 1) := by decide +kernel
theorem dX4_init_82 : decode cX4_init 82 = .ok (.iadd, 1) := by decide +kernel
theorem dX4_init_83 : decode cX4_init 83 = .ok (.iastore, 1) := by decide +kernel
theorem dX4_init_84 : decode cX4_init 84 = .ok (.aload_n 0, 1) := by decide +kernel
theorem dX4_init_85 : decode cX4_init 85 = .ok (.getfield 7, 3) := by decide +kernel
theorem dX4_init_88 : decode cX4_init 88 = .ok (.bipush 12, 2) := by decide +kernel
theorem dX4_init_90 : decode cX4_init 90 = .ok (.iload_n 1, 1) := by decide +kernel
theorem dX4_init_91 : decode cX4_init 91 = .ok (.iadd, 1) := by decide +kernel
theorem dX4_init_92 : decode cX4_init 92 = .ok (.iconst 4, 1) := by decide +kernel
theorem dX4_init_93 : decode cX4_init 93 = .ok (.iastore, 1) := by decide +kernel
theorem dX4_init_94 : decode cX4_init 94 = .ok (.iinc 1 1, 3) := by decide +kernel
theorem dX4_init_97 : decode cX4_init 97 = .ok (.goto (-30), 3) := by decide +kernel
theorem dX4_init_100 : decode cX4_init 100 = .ok (.iconst 0, 1) := by decide +kernel
theorem dX4_init_101 : decode cX4_init 101 = .ok (.istore_n 1, 1) := by decide +kernel
theorem dX4_init_102 : decode cX4_init 102 = .ok (.iload_n 1, 1) := by decide +kernel
theorem dX4_init_103 : decode cX4_init 103 = .ok (.bipush 64, 2) := by decide +kernel
theorem dX4_init_105 : decode cX4_init 105 = .ok (.if_icmp .ge 20, 3) := by decide +kernel
theorem dX4_init_108 : decode cX4_init 108 = .ok (.aload_n 0, 1) := by decide +kernel
theorem dX4_init_109 : decode cX4_init 109 = .ok (.getfield 7, 3) := by decide +kernel
theorem dX4_init_112 : decode cX4_init 112 = .ok (.sipush 148, 3) := by decide +kernel
theorem dX4_init_115 : decode cX4_init 115 = .ok (.iload_n 1, 1) := by decide +kernel
theorem dX4_init_116 : decode cX4_init 116 = .ok (.iadd, 1) := by decide +kernel
theorem dX4_init_117 : decode cX4_init 117 = .ok (.iload_n 1, 1) := by decide +kernel
theorem dX4_init_118 : decode cX4_init 118 = .ok (.iastore, 1) := by decide +kernel
theorem dX4_init_119 : decode cX4_init 119 = .ok (.iinc 1 1, 3) := by decide +kernel
theorem dX4_init_122 : decode cX4_init 122 = .ok (.goto (-20), 3) := by decide +kernel
theorem dX4_init_125 : decode cX4_init 125 = .ok (.return_, 1) := by decide +kernel
theorem dX4_in_0 : decode cX4_in 0 = .ok (.iload_n 0, 1) := by decide +kernel
theorem dX4_in_1 : decode cX4_in 1 = .ok (.iload_n 1, 1) := by decide +kernel
theorem dX4_in_2 : decode cX4_in 2 = .ok (.if_icmp .lt 12, 3) := by decide +kernel
theorem dX4_in_5 : decode cX4_in 5 = .ok (.iload_n 0, 1) := by decide +kernel
theorem dX4_in_6 : decode cX4_in 6 = .ok (.iload_n 2, 1) := by decide +kernel
theorem dX4_in_7 : decode cX4_in 7 = .ok (.if_icmp .gt 7, 3) := by decide +kernel
theorem dX4_in_10 : decode cX4_in 10 = .ok (.iconst 1, 1) := by decide +kernel
theorem dX4_in_11 : decode cX4_in 11 = .ok (.goto 4, 3) := by decide +kernel
theorem dX4_in_14 : decode cX4_in 14 = .ok (.iconst 0, 1) := by decide +kernel
theorem dX4_in_15 : decode cX4_in 15 = .ok (.ireturn, 1) := by decide +kernel
theorem dX4_copies_0 : decode cX4_copies 0 = .ok (.iconst 0, 1) := by decide +kernel
theorem dX4_copies_1 : decode cX4_copies 1 = .ok (.istore_n 2, 1) := by decide +kernel
theorem dX4_copies_2 : decode cX4_copies 2 = .ok (.iload_n 2, 1) := by decide +kernel
theorem dX4_copies_3 : decode cX4_copies 3 = .ok (.sipush 276, 3) := by decide +kernel
theorem dX4_copies_6 : decode cX4_copies 6 = .ok (.if_icmp .ge 15, 3) := by decide +kernel
theorem dX4_copies_9 : decode cX4_copies 9 = .ok (.aload_n 1, 1) := by decide +kernel
theorem dX4_copies_10 : decode cX4_copies 10 = .ok (.iload_n 2, 1) := by decide +kernel
theorem dX4_copies_11 : decode cX4_copies 11 = .ok (.aload_n 0, 1) := by decide +kernel
theorem dX4_copies_12 : decode cX4_copies 12 = .ok (.iload_n 2, 1) := by decide +kernel
theorem dX4_copies_13 : decode cX4_copies 13 = .ok (.iaload, 1) := by decide +kernel
theorem dX4_copies_14 : decode cX4_copies 14 = .ok (.iastore, 1) := by decide +kernel
theorem dX4_copies_15 : decode cX4_copies 15 = .ok (.iinc 2 1, 3) := by decide +kernel
theorem dX4_copies_18 : decode cX4_copies 18 = .ok (.goto (-16), 3) := by decide +kernel
theorem dX4_copies_21 : decode cX4_copies 21 = .ok (.return_, 1) := by decide +kernel
theorem dX4_record_0 : decode cX4_record 0 = .ok (.aload_n 0, 1) := by decide +kernel
theorem dX4_record_1 : decode cX4_record 1 = .ok (.getfield 28, 3) := by decide +kernel
theorem dX4_record_4 : decode cX4_record 4 = .ok (.iconst 4, 1) := by decide +kernel
theorem dX4_record_5 : decode cX4_record 5 = .ok (.if_icmp .ne 44, 3) := by decide +kernel
theorem dX4_record_8 : decode cX4_record 8 = .ok (.iconst 0, 1) := by decide +kernel
theorem dX4_record_9 : decode cX4_record 9 = .ok (.istore_n 2, 1) := by decide +kernel
theorem dX4_record_10 : decode cX4_record 10 = .ok (.iload_n 2, 1) := by decide +kernel
theorem dX4_record_11 : decode cX4_record 11 = .ok (.sipush 828, 3) := by decide +kernel
theorem dX4_record_14 : decode cX4_record 14 = .ok (.if_icmp .ge 25, 3) := by decide +kernel
theorem dX4_record_17 : decode cX4_record 17 = .ok (.aload_n 0, 1) := by decide +kernel
theorem dX4_record_18 : decode cX4_record 18 = .ok (.getfield 22, 3) := by decide +kernel
theorem dX4_record_21 : decode cX4_record 21 = .ok (.iload_n 2, 1) := by decide +kernel
theorem dX4_record_22 : decode cX4_record 22 = .ok (.aload_n 0, 1) := by decide +kernel
theorem dX4_record_23 : decode cX4_record 23 = .ok (.getfield 22, 3) := by decide +kernel
theorem dX4_record_26 : decode cX4_record 26 = .ok (.iload_n 2, 1) := by decide +kernel
theorem dX4_record_27 : decode cX4_record 27 = .ok (.sipush 276, 3) := by decide +kernel
theorem dX4_record_30 : decode cX4_record 30 = .ok (.iadd, 1) := by decide +kernel
theorem dX4_record_31 : decode cX4_record 31 = .ok (.iaload, 1) := by decide +kernel
theorem dX4_record_32 : decode cX4_record 32 = .ok (.iastore, 1) := by decide +kernel
theorem dX4_record_33 : decode cX4_record 33 = .ok (.iinc 2 1, 3) := by decide +kernel
theorem dX4_record_36 : decode cX4_record 36 = .ok (.goto (-26), 3) := by decide +kernel
theorem dX4_record_39 : decode cX4_record 39 = .ok (.aload_n 0, 1) := by decide +kernel
theorem dX4_record_40 : decode cX4_record 40 = .ok (.dup, 1) := by decide +kernel
theorem dX4_record_41 : decode cX4_record 41 = .ok (.getfield 28, 3) := by decide +kernel
theorem dX4_record_44 : decode cX4_record 44 = .ok (.iconst 1, 1) := by decide +kernel
theorem dX4_record_45 : decode cX4_record 45 = .ok (.isub, 1) := by decide +kernel
theorem dX4_record_46 : decode cX4_record 46 = .ok (.putfield 28, 3) := by decide +kernel
theorem dX4_record_49 : decode cX4_record 49 = .ok (.iconst 0, 1) := by decide +kernel
theorem dX4_record_50 : decode cX4_record 50 = .ok (.istore_n 2, 1) := by decide +kernel
theorem dX4_record_51 : decode cX4_record 51 = .ok (.iload_n 2, 1) := by decide +kernel
theorem dX4_record_52 : decode cX4_record 52 = .ok (.sipush 276, 3) := by decide +kernel
theorem dX4_record_55 : decode cX4_record 55 = .ok (.if_icmp .ge 27, 3) := by decide +kernel
theorem dX4_record_58 : decode cX4_record 58 = .ok (.aload_n 0, 1) := by decide +kernel
theorem dX4_record_59 : decode cX4_record 59 = .ok (.getfield 22, 3) := by decide +kernel
theorem dX4_record_62 : decode cX4_record 62 = .ok (.sipush 276, 3) := by decide +kernel
theorem dX4_record_65 : decode cX4_record 65 = .ok (.aload_n 0, 1) := by decide +kernel
theorem dX4_record_66 : decode cX4_record 66 = .ok (.getfield 28, 3) := by decide +kernel
theorem dX4_record_69 : decode cX4_record 69 = .ok (.imul, 1) := by decide +kernel
theorem dX4_record_70 : decode cX4_record 70 = .ok (.iload_n 2, 1) := by decide +kernel
theorem dX4_record_71 : decode cX4_record 71 = .ok (.iadd, 1) := by decide +kernel
theorem dX4_record_72 : decode cX4_record 72 = .ok (.aload_n 1, 1) := by decide +kernel
theorem dX4_record_73 : decode cX4_record 73 = .ok (.iload_n 2, 1) := by decide +kernel
theorem dX4_record_74 : decode cX4_record 74 = .ok (.iaload, 1) := by decide +kernel
theorem dX4_record_75 : decode cX4_record 75 = .ok (.iastore, 1) := by decide +kernel
theorem dX4_record_76 : decode cX4_record 76 = .ok (.iinc 2 1, 3) := by decide +kernel
theorem dX4_record_79 : decode cX4_record 79 = .ok (.goto (-28), 3) := by decide +kernel
theorem dX4_record_82 : decode cX4_record 82 = .ok (.aload_n 0, 1) := by decide +kernel
theorem dX4_record_83 : decode cX4_record 83 = .ok (.dup, 1) := by decide +kernel
theorem dX4_record_84 : decode cX4_record 84 = .ok (.getfield 28, 3) := by decide +kernel
theorem dX4_record_87 : decode cX4_record 87 = .ok (.iconst 1, 1) := by decide +kernel
theorem dX4_record_88 : decode cX4_record 88 = .ok (.iadd, 1) := by decide +kernel
theorem dX4_record_89 : decode cX4_record 89 = .ok (.putfield 28, 3) := by decide +kernel
theorem dX4_record_92 : decode cX4_record 92 = .ok (.return_, 1) := by decide +kernel
set_option maxRecDepth 20000 in
theorem ggX4_isHead_X4_in : GoodIn wsX4_isHead wsX4_in := goodIn_r _ [4] (by decide +kernel) (by decide +kernel)
set_option maxRecDepth 20000 in
theorem gX4_isHead_X4_in : GoodIn wsX4_isHead (va_wsS RX4 32 yX4_in wsX4_in) := goodIn_app (goodIn_of _ (by decide +kernel)) ggX4_isHead_X4_in
theorem dX4_isHead_0 : decode cX4_isHead 0 = .ok (.iload_n 0, 1) := by decide +kernel
theorem dX4_isHead_1 : decode cX4_isHead 1 = .ok (.iconst 0, 1) := by decide +kernel
theorem dX4_isHead_2 : decode cX4_isHead 2 = .ok (.iconst 3, 1) := by decide +kernel
theorem dX4_isHead_3 : decode cX4_isHead 3 = .ok (.invokestatic 32, 3) := by decide +kernel
theorem dX4_isHead_6 : decode cX4_isHead 6 = .ok (.ireturn, 1) := by decide +kernel
theorem dX4_isSpare_0 : decode cX4_isSpare 0 = .ok (.iload_n 1, 1) := by decide +kernel
theorem dX4_isSpare_1 : decode cX4_isSpare 1 = .ok (.bipush 16, 2) := by decide +kernel
theorem dX4_isSpare_3 : decode cX4_isSpare 3 = .ok (.irem, 1) := by decide +kernel
theorem dX4_isSpare_4 : decode cX4_isSpare 4 = .ok (.bipush 16, 2) := by decide +kernel
theorem dX4_isSpare_6 : decode cX4_isSpare 6 = .ok (.aload_n 0, 1) := by decide +kernel
theorem dX4_isSpare_7 : decode cX4_isSpare 7 = .ok (.getfield 7, 3) := by decide +kernel
theorem dX4_isSpare_10 : decode cX4_isSpare 10 = .ok (.bipush 12, 2) := by decide +kernel
theorem dX4_isSpare_12 : decode cX4_isSpare 12 = .ok (.iload_n 1, 1) := by decide +kernel
theorem dX4_isSpare_13 : decode cX4_isSpare 13 = .ok (.bipush 16, 2) := by decide +kernel
theorem dX4_isSpare_15 : decode cX4_isSpare 15 = .ok (.idiv, 1) := by decide +kernel
theorem dX4_isSpare_16 : decode cX4_isSpare 16 = .ok (.iadd, 1) := by decide +kernel
theorem dX4_isSpare_17 : decode cX4_isSpare 17 = .ok (.iaload, 1) := by decide +kernel
theorem dX4_isSpare_18 : decode cX4_isSpare 18 = .ok (.isub, 1) := by decide +kernel
theorem dX4_isSpare_19 : decode cX4_isSpare 19 = .ok (.if_icmp .lt 7, 3) := by decide +kernel
theorem dX4_isSpare_22 : decode cX4_isSpare 22 = .ok (.iconst 1, 1) := by decide +kernel
theorem dX4_isSpare_23 : decode cX4_isSpare 23 = .ok (.goto 4, 3) := by decide +kernel
theorem dX4_isSpare_26 : decode cX4_isSpare 26 = .ok (.iconst 0, 1) := by decide +kernel
theorem dX4_isSpare_27 : decode cX4_isSpare 27 = .ok (.ireturn, 1) := by decide +kernel
set_option maxRecDepth 20000 in
theorem ggX4_isAddress_X4_in : GoodIn wsX4_isAddress wsX4_in := goodIn_r _ [4] (by decide +kernel) (by decide +kernel)
set_option maxRecDepth 20000 in
theorem gX4_isAddress_X4_in : GoodIn wsX4_isAddress (va_wsS RX4 32 yX4_in wsX4_in) := goodIn_app (goodIn_of _ (by decide +kernel)) ggX4_isAddress_X4_in
set_option maxRecDepth 20000 in
theorem ggX4_isAddress_X4_isSpare : GoodIn wsX4_isAddress wsX4_isSpare := goodIn_r _ [8, 9, 10, 11, 12, 13, 14, 15, 16, 17, 18, 19] (by decide +kernel) (by decide +kernel)
set_option maxRecDepth 20000 in
theorem gX4_isAddress_X4_isSpare : GoodIn wsX4_isAddress (wsV RX4 36 RX4 yX4_isSpare wsX4_isSpare) := goodIn_app (goodIn_of _ (by decide +kernel)) ggX4_isAddress_X4_isSpare
theorem dX4_isAddress_0 : decode cX4_isAddress 0 = .ok (.iload_n 1, 1) := by decide +kernel
theorem dX4_isAddress_1 : decode cX4_isAddress 1 = .ok (.iconst 0, 1) := by decide +kernel
theorem dX4_isAddress_2 : decode cX4_isAddress 2 = .ok (.bipush 63, 2) := by decide +kernel
theorem dX4_isAddress_4 : decode cX4_isAddress 4 = .ok (.invokestatic 32, 3) := by decide +kernel
theorem dX4_isAddress_7 : decode cX4_isAddress 7 = .ok (.ifCond .eq 15, 3) := by decide +kernel
theorem dX4_isAddress_10 : decode cX4_isAddress 10 = .ok (.aload_n 0, 1) := by decide +kernel
theorem dX4_isAddress_11 : decode cX4_isAddress 11 = .ok (.iload_n 1, 1) := by decide +kernel
theorem dX4_isAddress_12 : decode cX4_isAddress 12 = .ok (.invokevirtual 36, 3) := by decide +kernel
theorem dX4_isAddress_15 : decode cX4_isAddress 15 = .ok (.ifCond .ne 7, 3) := by decide +kernel
theorem dX4_isAddress_18 : decode cX4_isAddress 18 = .ok (.iconst 1, 1) := by decide +kernel
theorem dX4_isAddress_19 : decode cX4_isAddress 19 = .ok (.goto 4, 3) := by decide +kernel
theorem dX4_isAddress_22 : decode cX4_isAddress 22 = .ok (.iconst 0, 1) := by decide +kernel
theorem dX4_isAddress_23 : decode cX4_isAddress 23 = .ok (.ireturn, 1) := by decide +kernel
theorem dX4_isLost_0 : decode cX4_isLost 0 = .ok (.aload_n 0, 1) := by decide +kernel
theorem dX4_isLost_1 : decode cX4_isLost 1 = .ok (.getfield 7, 3) := by decide +kernel
theorem dX4_isLost_4 : decode cX4_isLost 4 = .ok (.sipush 148, 3) := by decide +kernel
theorem dX4_isLost_7 : decode cX4_isLost 7 = .ok (.iload_n 1, 1) := by decide +kernel
theorem dX4_isLost_8 : decode cX4_isLost 8 = .ok (.iadd, 1) := by decide +kernel
theorem dX4_isLost_9 : decode cX4_isLost 9 = .ok (.iaload, 1) := by decide +kernel
theorem dX4_isLost_10 : decode cX4_isLost 10 = .ok (.ifCond .ge 7, 3) := by decide +kernel
theorem dX4_isLost_13 : decode cX4_isLost 13 = .ok (.iconst 1, 1) := by decide +kernel
theorem dX4_isLost_14 : decode cX4_isLost 14 = .ok (.goto 4, 3) := by decide +kernel
theorem dX4_isLost_17 : decode cX4_isLost 17 = .ok (.iconst 0, 1) := by decide +kernel
theorem dX4_isLost_18 : decode cX4_isLost 18 = .ok (.ireturn, 1) := by decide +kernel
theorem dX4_state_0 : decode cX4_state 0 = .ok (.aload_n 0, 1) := by decide +kernel
theorem dX4_state_1 : decode cX4_state 1 = .ok (.getfield 7, 3) := by decide +kernel
theorem dX4_state_4 : decode cX4_state 4 = .ok (.bipush 20, 2) := by decide +kernel
theorem dX4_state_6 : decode cX4_state 6 = .ok (.iload_n 1, 1) := by decide +kernel
theorem dX4_state_7 : decode cX4_state 7 = .ok (.iadd, 1) := by decide +kernel
theorem dX4_state_8 : decode cX4_state 8 = .ok (.iaload, 1) := by decide +kernel
theorem dX4_state_9 : decode cX4_state 9 = .ok (.istore_n 2, 1) := by decide +kernel
theorem dX4_state_10 : decode cX4_state 10 = .ok (.iload_n 2, 1) := by decide +kernel
theorem dX4_state_11 : decode cX4_state 11 = .ok (.aload_n 0, 1) := by decide +kernel
theorem dX4_state_12 : decode cX4_state 12 = .ok (.getfield 7, 3) := by decide +kernel
theorem dX4_state_15 : decode cX4_state 15 = .ok (.iconst 0, 1) := by decide +kernel
theorem dX4_state_16 : decode cX4_state 16 = .ok (.iaload, 1) := by decide +kernel
theorem dX4_state_17 : decode cX4_state 17 = .ok (.if_icmp .ge 7, 3) := by decide +kernel
theorem dX4_state_20 : decode cX4_state 20 = .ok (.iconst 0, 1) := by decide +kernel
theorem dX4_state_21 : decode cX4_state 21 = .ok (.goto 20, 3) := by decide +kernel
theorem dX4_state_24 : decode cX4_state 24 = .ok (.iload_n 2, 1) := by decide +kernel
theorem dX4_state_25 : decode cX4_state 25 = .ok (.iconst 2, 1) := by decide +kernel
theorem dX4_state_26 : decode cX4_state 26 = .ok (.aload_n 0, 1) := by decide +kernel
theorem dX4_state_27 : decode cX4_state 27 = .ok (.getfield 7, 3) := by decide +kernel
theorem dX4_state_30 : decode cX4_state 30 = .ok (.iconst 0, 1) := by decide +kernel
theorem dX4_state_31 : decode cX4_state 31 = .ok (.iaload, 1) := by decide +kernel
theorem dX4_state_32 : decode cX4_state 32 = .ok (.imul, 1) := by decide +kernel
theorem dX4_state_33 : decode cX4_state 33 = .ok (.if_icmp .ge 7, 3) := by decide +kernel
theorem dX4_state_36 : decode cX4_state 36 = .ok (.iconst 1, 1) := by decide +kernel
theorem dX4_state_37 : decode cX4_state 37 = .ok (.goto 4, 3) := by decide +kernel
theorem dX4_state_40 : decode cX4_state 40 = .ok (.iconst 2, 1) := by decide +kernel
theorem dX4_state_41 : decode cX4_state 41 = .ok (.ireturn, 1) := by decide +kernel
set_option maxRecDepth 20000 in
theorem ggX4_serves_X4_isAddress : GoodIn wsX4_serves wsX4_isAddress := goodIn_r _ [6, 7, 8, 5, 9, 10, 11, 12, 13, 1, 14, 15, 16, 17, 18, 19, 20, 21, 22, 23] (by decide +kernel) (by decide +kernel)
set_option maxRecDepth 20000 in
theorem gX4_serves_X4_isAddress : GoodIn wsX4_serves (wsV RX4 40 RX4 yX4_isAddress wsX4_isAddress) := goodIn_app (goodIn_of _ (by decide +kernel)) ggX4_serves_X4_isAddress
theorem dX4_serves_0 : decode cX4_serves 0 = .ok (.iconst 0, 1) := by decide +kernel
theorem dX4_serves_1 : decode cX4_serves 1 = .ok (.istore_n 2, 1) := by decide +kernel
theorem dX4_serves_2 : decode cX4_serves 2 = .ok (.iload_n 2, 1) := by decide +kernel
theorem dX4_serves_3 : decode cX4_serves 3 = .ok (.bipush 64, 2) := by decide +kernel
theorem dX4_serves_5 : decode cX4_serves 5 = .ok (.if_icmp .ge 33, 3) := by decide +kernel
theorem dX4_serves_8 : decode cX4_serves 8 = .ok (.aload_n 0, 1) := by decide +kernel
theorem dX4_serves_9 : decode cX4_serves 9 = .ok (.iload_n 2, 1) := by decide +kernel
theorem dX4_serves_10 : decode cX4_serves 10 = .ok (.invokevirtual 40, 3) := by decide +kernel
theorem dX4_serves_13 : decode cX4_serves 13 = .ok (.ifCond .eq 19, 3) := by decide +kernel
theorem dX4_serves_16 : decode cX4_serves 16 = .ok (.aload_n 0, 1) := by decide +kernel
theorem dX4_serves_17 : decode cX4_serves 17 = .ok (.getfield 7, 3) := by decide +kernel
theorem dX4_serves_20 : decode cX4_serves 20 = .ok (.sipush 148, 3) := by decide +kernel
theorem dX4_serves_23 : decode cX4_serves 23 = .ok (.iload_n 2, 1) := by decide +kernel
theorem dX4_serves_24 : decode cX4_serves 24 = .ok (.iadd, 1) := by decide +kernel
theorem dX4_serves_25 : decode cX4_serves 25 = .ok (.iaload, 1) := by decide +kernel
theorem dX4_serves_26 : decode cX4_serves 26 = .ok (.iload_n 1, 1) := by decide +kernel
theorem dX4_serves_27 : decode cX4_serves 27 = .ok (.if_icmp .ne 5, 3) := by decide +kernel
theorem dX4_serves_30 : decode cX4_serves 30 = .ok (.iload_n 2, 1) := by decide +kernel
theorem dX4_serves_31 : decode cX4_serves 31 = .ok (.ireturn, 1) := by decide +kernel
theorem dX4_serves_32 : decode cX4_serves 32 = .ok (.iinc 2 1, 3) := by decide +kernel
theorem dX4_serves_35 : decode cX4_serves 35 = .ok (.goto (-33), 3) := by decide +kernel
theorem dX4_serves_38 : decode cX4_serves 38 = .ok (.bipush (-5), 2) := by decide +kernel
theorem dX4_serves_40 : decode cX4_serves 40 = .ok (.ireturn, 1) := by decide +kernel
set_option maxRecDepth 20000 in
theorem ggX4_isFree_X4_isSpare : GoodIn wsX4_isFree wsX4_isSpare := goodIn_r _ [6, 1, 22, 23, 24, 25, 26, 27, 28, 29, 30, 31] (by decide +kernel) (by decide +kernel)
set_option maxRecDepth 20000 in
theorem gX4_isFree_X4_isSpare : GoodIn wsX4_isFree (wsV RX4 36 RX4 yX4_isSpare wsX4_isSpare) := goodIn_app (goodIn_of _ (by decide +kernel)) ggX4_isFree_X4_isSpare
set_option maxRecDepth 20000 in
theorem ggX4_isFree_X4_state : GoodIn wsX4_isFree wsX4_state := goodIn_r _ [10, 1, 22, 23, 24, 25, 26, 27, 28, 29, 30, 31] (by decide +kernel) (by decide +kernel)
set_option maxRecDepth 20000 in
theorem gX4_isFree_X4_state : GoodIn wsX4_isFree (wsV RX4 43 RX4 yX4_state wsX4_state) := goodIn_app (goodIn_of _ (by decide +kernel)) ggX4_isFree_X4_state
set_option maxRecDepth 20000 in
theorem ggX4_isFree_X4_serves : GoodIn wsX4_isFree wsX4_serves := goodIn_r _ [14, 1, 15, 16, 17, 5, 18, 19, 20, 21, 2, 3, 4, 6, 22, 23, 24, 25, 26, 27, 28, 29, 30, 31] (by decide +kernel) (by decide +kernel)
set_option maxRecDepth 20000 in
theorem gX4_isFree_X4_serves : GoodIn wsX4_isFree (wsV RX4 47 RX4 yX4_serves wsX4_serves) := goodIn_app (goodIn_of _ (by decide +kernel)) ggX4_isFree_X4_serves
theorem dX4_isFree_0 : decode cX4_isFree 0 = .ok (.aload_n 0, 1) := by decide +kernel
theorem dX4_isFree_1 : decode cX4_isFree 1 = .ok (.iload_n 1, 1) := by decide +kernel
theorem dX4_isFree_2 : decode cX4_isFree 2 = .ok (.invokevirtual 36, 3) := by decide +kernel
theorem dX4_isFree_5 : decode cX4_isFree 5 = .ok (.ifCond .eq 40, 3) := by decide +kernel
theorem dX4_isFree_8 : decode cX4_isFree 8 = .ok (.aload_n 0, 1) := by decide +kernel
theorem dX4_isFree_9 : decode cX4_isFree 9 = .ok (.getfield 7, 3) := by decide +kernel
theorem dX4_isFree_12 : decode cX4_isFree 12 = .ok (.bipush 16, 2) := by decide +kernel
theorem dX4_isFree_14 : decode cX4_isFree 14 = .ok (.iload_n 1, 1) := by decide +kernel
theorem dX4_isFree_15 : decode cX4_isFree 15 = .ok (.bipush 16, 2) := by decide +kernel
theorem dX4_isFree_17 : decode cX4_isFree 17 = .ok (.idiv, 1) := by decide +kernel
theorem dX4_isFree_18 : decode cX4_isFree 18 = .ok (.iadd, 1) := by decide +kernel
theorem dX4_isFree_19 : decode cX4_isFree 19 = .ok (.iaload, 1) := by decide +kernel
theorem dX4_isFree_20 : decode cX4_isFree 20 = .ok (.ifCond .ne 25, 3) := by decide +kernel
theorem dX4_isFree_23 : decode cX4_isFree 23 = .ok (.aload_n 0, 1) := by decide +kernel
theorem dX4_isFree_24 : decode cX4_isFree 24 = .ok (.iload_n 1, 1) := by decide +kernel
theorem dX4_isFree_25 : decode cX4_isFree 25 = .ok (.invokevirtual 43, 3) := by decide +kernel
theorem dX4_isFree_28 : decode cX4_isFree 28 = .ok (.ifCond .ne 17, 3) := by decide +kernel
theorem dX4_isFree_31 : decode cX4_isFree 31 = .ok (.aload_n 0, 1) := by decide +kernel
theorem dX4_isFree_32 : decode cX4_isFree 32 = .ok (.iload_n 1, 1) := by decide +kernel
theorem dX4_isFree_33 : decode cX4_isFree 33 = .ok (.invokevirtual 47, 3) := by decide +kernel
theorem dX4_isFree_36 : decode cX4_isFree 36 = .ok (.bipush (-5), 2) := by decide +kernel
theorem dX4_isFree_38 : decode cX4_isFree 38 = .ok (.if_icmp .ne 7, 3) := by decide +kernel
theorem dX4_isFree_41 : decode cX4_isFree 41 = .ok (.iconst 1, 1) := by decide +kernel
theorem dX4_isFree_42 : decode cX4_isFree 42 = .ok (.goto 4, 3) := by decide +kernel
theorem dX4_isFree_45 : decode cX4_isFree 45 = .ok (.iconst 0, 1) := by decide +kernel
theorem dX4_isFree_46 : decode cX4_isFree 46 = .ok (.ireturn, 1) := by decide +kernel
set_option maxRecDepth 20000 in
theorem ggX4_frees_X4_isFree : GoodIn wsX4_frees wsX4_isFree := goodIn_r _ [5, 6, 7, 8, 9, 4, 10, 11, 12, 13, 14, 15, 16, 17, 18, 19, 20, 21, 22, 23, 24, 25, 26, 27, 28, 29, 30, 31, 32, 33, 34, 35] (by decide +kernel) (by decide +kernel)
set_option maxRecDepth 20000 in
theorem gX4_frees_X4_isFree : GoodIn wsX4_frees (wsV RX4 50 RX4 yX4_isFree wsX4_isFree) := goodIn_app (goodIn_of _ (by decide +kernel)) ggX4_frees_X4_isFree
theorem dX4_frees_0 : decode cX4_frees 0 = .ok (.iconst 0, 1) := by decide +kernel
theorem dX4_frees_1 : decode cX4_frees 1 = .ok (.istore_n 2, 1) := by decide +kernel
theorem dX4_frees_2 : decode cX4_frees 2 = .ok (.iconst 0, 1) := by decide +kernel
theorem dX4_frees_3 : decode cX4_frees 3 = .ok (.istore_n 3, 1) := by decide +kernel
theorem dX4_frees_4 : decode cX4_frees 4 = .ok (.iload_n 3, 1) := by decide +kernel
theorem dX4_frees_5 : decode cX4_frees 5 = .ok (.bipush 16, 2) := by decide +kernel
theorem dX4_frees_7 : decode cX4_frees 7 = .ok (.if_icmp .ge 30, 3) := by decide +kernel
theorem dX4_frees_10 : decode cX4_frees 10 = .ok (.iload_n 2, 1) := by decide +kernel
theorem dX4_frees_11 : decode cX4_frees 11 = .ok (.aload_n 0, 1) := by decide +kernel
theorem dX4_frees_12 : decode cX4_frees 12 = .ok (.bipush 16, 2) := by decide +kernel
theorem dX4_frees_14 : decode cX4_frees 14 = .ok (.iload_n 1, 1) := by decide +kernel
theorem dX4_frees_15 : decode cX4_frees 15 = .ok (.imul, 1) := by decide +kernel
theorem dX4_frees_16 : decode cX4_frees 16 = .ok (.iload_n 3, 1) := by decide +kernel
theorem dX4_frees_17 : decode cX4_frees 17 = .ok (.iadd, 1) := by decide +kernel
theorem dX4_frees_18 : decode cX4_frees 18 = .ok (.invokevirtual 50, 3) := by decide +kernel
theorem dX4_frees_21 : decode cX4_frees 21 = .ok (.ifCond .eq 7, 3) := by decide +kernel
theorem dX4_frees_24 : decode cX4_frees 24 = .ok (.iconst 1, 1) := by decide +kernel
theorem dX4_frees_25 : decode cX4_frees 25 = .ok (.goto 4, 3) := by decide +kernel
theorem dX4_frees_28 : decode cX4_frees 28 = .ok (.iconst 0, 1) := by decide +kernel
theorem dX4_frees_29 : decode cX4_frees 29 = .ok (.iadd, 1) := by decide +kernel
theorem dX4_frees_30 : decode cX4_frees 30 = .ok (.istore_n 2, 1) := by decide +kernel
theorem dX4_frees_31 : decode cX4_frees 31 = .ok (.iinc 3 1, 3) := by decide +kernel
theorem dX4_frees_34 : decode cX4_frees 34 = .ok (.goto (-30), 3) := by decide +kernel
theorem dX4_frees_37 : decode cX4_frees 37 = .ok (.iload_n 2, 1) := by decide +kernel
theorem dX4_frees_38 : decode cX4_frees 38 = .ok (.ireturn, 1) := by decide +kernel
set_option maxRecDepth 20000 in
theorem ggX4_firstFree_X4_isFree : GoodIn wsX4_firstFree wsX4_isFree := goodIn_r _ [5, 6, 7, 8, 9, 4, 10, 11, 12, 13, 14, 15, 16, 17, 18, 19, 20, 21, 22, 23, 24, 25, 26, 27, 28, 29, 30, 31, 32, 33, 34, 35] (by decide +kernel) (by decide +kernel)
set_option maxRecDepth 20000 in
theorem gX4_firstFree_X4_isFree : GoodIn wsX4_firstFree (wsV RX4 50 RX4 yX4_isFree wsX4_isFree) := goodIn_app (goodIn_of _ (by decide +kernel)) ggX4_firstFree_X4_isFree
theorem dX4_firstFree_0 : decode cX4_firstFree 0 = .ok (.iconst 0, 1) := by decide +kernel
theorem dX4_firstFree_1 : decode cX4_firstFree 1 = .ok (.istore_n 2, 1) := by decide +kernel
theorem dX4_firstFree_2 : decode cX4_firstFree 2 = .ok (.iload_n 2, 1) := by decide +kernel
theorem dX4_firstFree_3 : decode cX4_firstFree 3 = .ok (.bipush 16, 2) := by decide +kernel
theorem dX4_firstFree_5 : decode cX4_firstFree 5 = .ok (.if_icmp .ge 29, 3) := by decide +kernel
theorem dX4_firstFree_8 : decode cX4_firstFree 8 = .ok (.aload_n 0, 1) := by decide +kernel
theorem dX4_firstFree_9 : decode cX4_firstFree 9 = .ok (.bipush 16, 2) := by decide +kernel
theorem dX4_firstFree_11 : decode cX4_firstFree 11 = .ok (.iload_n 1, 1) := by decide +kernel
theorem dX4_firstFree_12 : decode cX4_firstFree 12 = .ok (.imul, 1) := by decide +kernel
theorem dX4_firstFree_13 : decode cX4_firstFree 13 = .ok (.iload_n 2, 1) := by decide +kernel
theorem dX4_firstFree_14 : decode cX4_firstFree 14 = .ok (.iadd, 1) := by decide +kernel
theorem dX4_firstFree_15 : decode cX4_firstFree 15 = .ok (.invokevirtual 50, 3) := by decide +kernel
theorem dX4_firstFree_18 : decode cX4_firstFree 18 = .ok (.ifCond .eq 10, 3) := by decide +kernel
theorem dX4_firstFree_21 : decode cX4_firstFree 21 = .ok (.bipush 16, 2) := by decide +kernel
theorem dX4_firstFree_23 : decode cX4_firstFree 23 = .ok (.iload_n 1, 1) := by decide +kernel
theorem dX4_firstFree_24 : decode cX4_firstFree 24 = .ok (.imul, 1) := by decide +kernel
theorem dX4_firstFree_25 : decode cX4_firstFree 25 = .ok (.iload_n 2, 1) := by decide +kernel
theorem dX4_firstFree_26 : decode cX4_firstFree 26 = .ok (.iadd, 1) := by decide +kernel
theorem dX4_firstFree_27 : decode cX4_firstFree 27 = .ok (.ireturn, 1) := by decide +kernel
theorem dX4_firstFree_28 : decode cX4_firstFree 28 = .ok (.iinc 2 1, 3) := by decide +kernel
theorem dX4_firstFree_31 : decode cX4_firstFree 31 = .ok (.goto (-29), 3) := by decide +kernel
theorem dX4_firstFree_34 : decode cX4_firstFree 34 = .ok (.bipush (-5), 2) := by decide +kernel
theorem dX4_firstFree_36 : decode cX4_firstFree 36 = .ok (.ireturn, 1) := by decide +kernel
set_option maxRecDepth 20000 in
theorem ggX4_lends_X4_firstFree : GoodIn wsX4_lends wsX4_firstFree := goodIn_r _ [5, 6, 7, 8, 4, 9, 10, 11, 12, 13, 14, 15, 16, 17, 18, 19, 20, 21, 22, 23, 24, 25, 26, 27, 28, 29, 34, 35, 36, 37, 38, 39, 40, 41, 42, 43] (by decide +kernel) (by decide +kernel)
set_option maxRecDepth 20000 in
theorem gX4_lends_X4_firstFree : GoodIn wsX4_lends (wsV RX4 53 RX4 yX4_firstFree wsX4_firstFree) := goodIn_app (goodIn_of _ (by decide +kernel)) ggX4_lends_X4_firstFree
set_option maxRecDepth 20000 in
theorem ggX4_lends_X4_frees : GoodIn wsX4_lends wsX4_frees := goodIn_r _ [33, 6, 7, 8, 4, 9, 10, 11, 12, 13, 14, 15, 16, 17, 18, 19, 20, 21, 22, 23, 24, 25, 26, 27, 28, 29, 34, 35, 36, 37, 38, 39, 40, 41, 42, 43] (by decide +kernel) (by decide +kernel)
set_option maxRecDepth 20000 in
theorem gX4_lends_X4_frees : GoodIn wsX4_lends (wsV RX4 56 RX4 yX4_frees wsX4_frees) := goodIn_app (goodIn_of _ (by decide +kernel)) ggX4_lends_X4_frees
theorem dX4_lends_0 : decode cX4_lends 0 = .ok (.aload_n 0, 1) := by decide +kernel
theorem dX4_lends_1 : decode cX4_lends 1 = .ok (.iload_n 1, 1) := by decide +kernel
theorem dX4_lends_2 : decode cX4_lends 2 = .ok (.bipush 16, 2) := by decide +kernel
theorem dX4_lends_4 : decode cX4_lends 4 = .ok (.idiv, 1) := by decide +kernel
theorem dX4_lends_5 : decode cX4_lends 5 = .ok (.invokevirtual 53, 3) := by decide +kernel
theorem dX4_lends_8 : decode cX4_lends 8 = .ok (.istore_n 2, 1) := by decide +kernel
theorem dX4_lends_9 : decode cX4_lends 9 = .ok (.iload_n 2, 1) := by decide +kernel
theorem dX4_lends_10 : decode cX4_lends 10 = .ok (.bipush (-5), 2) := by decide +kernel
theorem dX4_lends_12 : decode cX4_lends 12 = .ok (.if_icmp .eq 5, 3) := by decide +kernel
theorem dX4_lends_15 : decode cX4_lends 15 = .ok (.iload_n 2, 1) := by decide +kernel
theorem dX4_lends_16 : decode cX4_lends 16 = .ok (.ireturn, 1) := by decide +kernel
theorem dX4_lends_17 : decode cX4_lends 17 = .ok (.iconst 0, 1) := by decide +kernel
theorem dX4_lends_18 : decode cX4_lends 18 = .ok (.istore_n 3, 1) := by decide +kernel
theorem dX4_lends_19 : decode cX4_lends 19 = .ok (.iconst 1, 1) := by decide +kernel
theorem dX4_lends_20 : decode cX4_lends 20 = .ok (.istore 4, 2) := by decide +kernel
theorem dX4_lends_22 : decode cX4_lends 22 = .ok (.iload 4, 2) := by decide +kernel
theorem dX4_lends_24 : decode cX4_lends 24 = .ok (.iconst 4, 1) := by decide +kernel
theorem dX4_lends_25 : decode cX4_lends 25 = .ok (.if_icmp .ge 30, 3) := by decide +kernel
theorem dX4_lends_28 : decode cX4_lends 28 = .ok (.aload_n 0, 1) := by decide +kernel
theorem dX4_lends_29 : decode cX4_lends 29 = .ok (.iload 4, 2) := by decide +kernel
theorem dX4_lends_31 : decode cX4_lends 31 = .ok (.invokevirtual 56, 3) := by decide +kernel
theorem dX4_lends_34 : decode cX4_lends 34 = .ok (.aload_n 0, 1) := by decide +kernel
theorem dX4_lends_35 : decode cX4_lends 35 = .ok (.iload_n 3, 1) := by decide +kernel
theorem dX4_lends_36 : decode cX4_lends 36 = .ok (.invokevirtual 56, 3) := by decide +kernel
theorem dX4_lends_39 : decode cX4_lends 39 = .ok (.if_icmp .le 8, 3) := by decide +kernel
theorem dX4_lends_42 : decode cX4_lends 42 = .ok (.iload 4, 2) := by decide +kernel
theorem dX4_lends_44 : decode cX4_lends 44 = .ok (.goto 4, 3) := by decide +kernel
theorem dX4_lends_47 : decode cX4_lends 47 = .ok (.iload_n 3, 1) := by decide +kernel
theorem dX4_lends_48 : decode cX4_lends 48 = .ok (.istore_n 3, 1) := by decide +kernel
theorem dX4_lends_49 : decode cX4_lends 49 = .ok (.iinc 4 1, 3) := by decide +kernel
theorem dX4_lends_52 : decode cX4_lends 52 = .ok (.goto (-30), 3) := by decide +kernel
theorem dX4_lends_55 : decode cX4_lends 55 = .ok (.aload_n 0, 1) := by decide +kernel
theorem dX4_lends_56 : decode cX4_lends 56 = .ok (.iload_n 3, 1) := by decide +kernel
theorem dX4_lends_57 : decode cX4_lends 57 = .ok (.invokevirtual 53, 3) := by decide +kernel
theorem dX4_lends_60 : decode cX4_lends 60 = .ok (.ireturn, 1) := by decide +kernel
theorem dX4_wears_0 : decode cX4_wears 0 = .ok (.aload_n 0, 1) := by decide +kernel
theorem dX4_wears_1 : decode cX4_wears 1 = .ok (.getfield 7, 3) := by decide +kernel
theorem dX4_wears_4 : decode cX4_wears 4 = .ok (.bipush 20, 2) := by decide +kernel
theorem dX4_wears_6 : decode cX4_wears 6 = .ok (.iload_n 1, 1) := by decide +kernel
theorem dX4_wears_7 : decode cX4_wears 7 = .ok (.iadd, 1) := by decide +kernel
theorem dX4_wears_8 : decode cX4_wears 8 = .ok (.iaload, 1) := by decide +kernel
theorem dX4_wears_9 : decode cX4_wears 9 = .ok (.aload_n 0, 1) := by decide +kernel
theorem dX4_wears_10 : decode cX4_wears 10 = .ok (.getfield 7, 3) := by decide +kernel
theorem dX4_wears_13 : decode cX4_wears 13 = .ok (.bipush 8, 2) := by decide +kernel
theorem dX4_wears_15 : decode cX4_wears 15 = .ok (.iload_n 1, 1) := by decide +kernel
theorem dX4_wears_16 : decode cX4_wears 16 = .ok (.bipush 16, 2) := by decide +kernel
theorem dX4_wears_18 : decode cX4_wears 18 = .ok (.idiv, 1) := by decide +kernel
theorem dX4_wears_19 : decode cX4_wears 19 = .ok (.iadd, 1) := by decide +kernel
theorem dX4_wears_20 : decode cX4_wears 20 = .ok (.iaload, 1) := by decide +kernel
theorem dX4_wears_21 : decode cX4_wears 21 = .ok (.iload_n 2, 1) := by decide +kernel
theorem dX4_wears_22 : decode cX4_wears 22 = .ok (.ifCond .eq 7, 3) := by decide +kernel
theorem dX4_wears_25 : decode cX4_wears 25 = .ok (.iconst 2, 1) := by decide +kernel
theorem dX4_wears_26 : decode cX4_wears 26 = .ok (.goto 4, 3) := by decide +kernel
theorem dX4_wears_29 : decode cX4_wears 29 = .ok (.iconst 1, 1) := by decide +kernel
theorem dX4_wears_30 : decode cX4_wears 30 = .ok (.imul, 1) := by decide +kernel
theorem dX4_wears_31 : decode cX4_wears 31 = .ok (.iadd, 1) := by decide +kernel
theorem dX4_wears_32 : decode cX4_wears 32 = .ok (.istore_n 3, 1) := by decide +kernel
theorem dX4_wears_33 : decode cX4_wears 33 = .ok (.aload_n 0, 1) := by decide +kernel
theorem dX4_wears_34 : decode cX4_wears 34 = .ok (.getfield 7, 3) := by decide +kernel
theorem dX4_wears_37 : decode cX4_wears 37 = .ok (.bipush 20, 2) := by decide +kernel
theorem dX4_wears_39 : decode cX4_wears 39 = .ok (.iload_n 1, 1) := by decide +kernel
theorem dX4_wears_40 : decode cX4_wears 40 = .ok (.iadd, 1) := by decide +kernel
theorem dX4_wears_41 : decode cX4_wears 41 = .ok (.iload_n 3, 1) := by decide +kernel
theorem dX4_wears_42 : decode cX4_wears 42 = .ok (.ldc 59, 2) := by decide +kernel
theorem dX4_wears_44 : decode cX4_wears 44 = .ok (.if_icmp .le 8, 3) := by decide +kernel
theorem dX4_wears_47 : decode cX4_wears 47 = .ok (.ldc 59, 2) := by decide +kernel
theorem dX4_wears_49 : decode cX4_wears 49 = .ok (.goto 4, 3) := by decide +kernel
theorem dX4_wears_52 : decode cX4_wears 52 = .ok (.iload_n 3, 1) := by decide +kernel
theorem dX4_wears_53 : decode cX4_wears 53 = .ok (.iastore, 1) := by decide +kernel
theorem dX4_wears_54 : decode cX4_wears 54 = .ok (.return_, 1) := by decide +kernel
theorem dX4_apart_0 : decode cX4_apart 0 = .ok (.iload_n 0, 1) := by decide +kernel
theorem dX4_apart_1 : decode cX4_apart 1 = .ok (.iload_n 2, 1) := by decide +kernel
theorem dX4_apart_2 : decode cX4_apart 2 = .ok (.bipush 16, 2) := by decide +kernel
theorem dX4_apart_4 : decode cX4_apart 4 = .ok (.irem, 1) := by decide +kernel
theorem dX4_apart_5 : decode cX4_apart 5 = .ok (.isub, 1) := by decide +kernel
theorem dX4_apart_6 : decode cX4_apart 6 = .ok (.istore_n 3, 1) := by decide +kernel
theorem dX4_apart_7 : decode cX4_apart 7 = .ok (.iload_n 3, 1) := by decide +kernel
theorem dX4_apart_8 : decode cX4_apart 8 = .ok (.ifCond .ge 8, 3) := by decide +kernel
theorem dX4_apart_11 : decode cX4_apart 11 = .ok (.iload_n 3, 1) := by decide +kernel
theorem dX4_apart_12 : decode cX4_apart 12 = .ok (.ineg, 1) := by decide +kernel
theorem dX4_apart_13 : decode cX4_apart 13 = .ok (.goto 4, 3) := by decide +kernel
theorem dX4_apart_16 : decode cX4_apart 16 = .ok (.iload_n 3, 1) := by decide +kernel
theorem dX4_apart_17 : decode cX4_apart 17 = .ok (.iload_n 1, 1) := by decide +kernel
theorem dX4_apart_18 : decode cX4_apart 18 = .ok (.iload_n 2, 1) := by decide +kernel
theorem dX4_apart_19 : decode cX4_apart 19 = .ok (.bipush 16, 2) := by decide +kernel
theorem dX4_apart_21 : decode cX4_apart 21 = .ok (.idiv, 1) := by decide +kernel
theorem dX4_apart_22 : decode cX4_apart 22 = .ok (.if_icmp .ne 7, 3) := by decide +kernel
theorem dX4_apart_25 : decode cX4_apart 25 = .ok (.iconst 0, 1) := by decide +kernel
theorem dX4_apart_26 : decode cX4_apart 26 = .ok (.goto 4, 3) := by decide +kernel
theorem dX4_apart_29 : decode cX4_apart 29 = .ok (.iconst 2, 1) := by decide +kernel
theorem dX4_apart_30 : decode cX4_apart 30 = .ok (.iadd, 1) := by decide +kernel
theorem dX4_apart_31 : decode cX4_apart 31 = .ok (.ireturn, 1) := by decide +kernel
set_option maxRecDepth 20000 in
theorem ggX4_goes_X4_apart : GoodIn wsX4_goes wsX4_apart := goodIn_r _ [5] (by decide +kernel) (by decide +kernel)
set_option maxRecDepth 20000 in
theorem gX4_goes_X4_apart : GoodIn wsX4_goes (va_wsS RX4 60 yX4_apart wsX4_apart) := goodIn_app (goodIn_of _ (by decide +kernel)) ggX4_goes_X4_apart
theorem dX4_goes_0 : decode cX4_goes 0 = .ok (.aload_n 0, 1) := by decide +kernel
theorem dX4_goes_1 : decode cX4_goes 1 = .ok (.getfield 7, 3) := by decide +kernel
theorem dX4_goes_4 : decode cX4_goes 4 = .ok (.iconst 3, 1) := by decide +kernel
theorem dX4_goes_5 : decode cX4_goes 5 = .ok (.dup2, 1) := by decide +kernel
theorem dX4_goes_6 : decode cX4_goes 6 = .ok (.iaload, 1) := by decide +kernel
theorem dX4_goes_7 : decode cX4_goes 7 = .ok (.aload_n 0, 1) := by decide +kernel
theorem dX4_goes_8 : decode cX4_goes 8 = .ok (.getfield 7, 3) := by decide +kernel
theorem dX4_goes_11 : decode cX4_goes 11 = .ok (.iconst 1, 1) := by decide +kernel
theorem dX4_goes_12 : decode cX4_goes 12 = .ok (.iaload, 1) := by decide +kernel
theorem dX4_goes_13 : decode cX4_goes 13 = .ok (.aload_n 0, 1) := by decide +kernel
theorem dX4_goes_14 : decode cX4_goes 14 = .ok (.getfield 7, 3) := by decide +kernel
theorem dX4_goes_17 : decode cX4_goes 17 = .ok (.iconst 2, 1) := by decide +kernel
theorem dX4_goes_18 : decode cX4_goes 18 = .ok (.iaload, 1) := by decide +kernel
theorem dX4_goes_19 : decode cX4_goes 19 = .ok (.iload_n 1, 1) := by decide +kernel
theorem dX4_goes_20 : decode cX4_goes 20 = .ok (.invokestatic 60, 3) := by decide +kernel
theorem dX4_goes_23 : decode cX4_goes 23 = .ok (.iadd, 1) := by decide +kernel
theorem dX4_goes_24 : decode cX4_goes 24 = .ok (.iastore, 1) := by decide +kernel
theorem dX4_goes_25 : decode cX4_goes 25 = .ok (.aload_n 0, 1) := by decide +kernel
theorem dX4_goes_26 : decode cX4_goes 26 = .ok (.getfield 7, 3) := by decide +kernel
theorem dX4_goes_29 : decode cX4_goes 29 = .ok (.iconst 1, 1) := by decide +kernel
theorem dX4_goes_30 : decode cX4_goes 30 = .ok (.iload_n 1, 1) := by decide +kernel
theorem dX4_goes_31 : decode cX4_goes 31 = .ok (.bipush 16, 2) := by decide +kernel
theorem dX4_goes_33 : decode cX4_goes 33 = .ok (.irem, 1) := by decide +kernel
theorem dX4_goes_34 : decode cX4_goes 34 = .ok (.iastore, 1) := by decide +kernel
theorem dX4_goes_35 : decode cX4_goes 35 = .ok (.aload_n 0, 1) := by decide +kernel
theorem dX4_goes_36 : decode cX4_goes 36 = .ok (.getfield 7, 3) := by decide +kernel
theorem dX4_goes_39 : decode cX4_goes 39 = .ok (.iconst 2, 1) := by decide +kernel
theorem dX4_goes_40 : decode cX4_goes 40 = .ok (.iload_n 1, 1) := by decide +kernel
theorem dX4_goes_41 : decode cX4_goes 41 = .ok (.bipush 16, 2) := by decide +kernel
theorem dX4_goes_43 : decode cX4_goes 43 = .ok (.idiv, 1) := by decide +kernel
theorem dX4_goes_44 : decode cX4_goes 44 = .ok (.iastore, 1) := by decide +kernel
theorem dX4_goes_45 : decode cX4_goes 45 = .ok (.return_, 1) := by decide +kernel
set_option maxRecDepth 20000 in
theorem ggX4_goesTo_X4_goes : GoodIn wsX4_goesTo wsX4_goes := goodIn_r _ [6, 1, 7, 8, 5, 9, 10, 11, 12, 13, 14, 15, 16, 17, 18, 19] (by decide +kernel) (by decide +kernel)
set_option maxRecDepth 20000 in
theorem gX4_goesTo_X4_goes : GoodIn wsX4_goesTo (wsV RX4 64 RX4 yX4_goes wsX4_goes) := goodIn_app (goodIn_of _ (by decide +kernel)) ggX4_goesTo_X4_goes
theorem dX4_goesTo_0 : decode cX4_goesTo 0 = .ok (.aload_n 0, 1) := by decide +kernel
theorem dX4_goesTo_1 : decode cX4_goesTo 1 = .ok (.getfield 7, 3) := by decide +kernel
theorem dX4_goesTo_4 : decode cX4_goesTo 4 = .ok (.bipush 16, 2) := by decide +kernel
theorem dX4_goesTo_6 : decode cX4_goesTo 6 = .ok (.iload_n 1, 1) := by decide +kernel
theorem dX4_goesTo_7 : decode cX4_goesTo 7 = .ok (.bipush 16, 2) := by decide +kernel
theorem dX4_goesTo_9 : decode cX4_goesTo 9 = .ok (.idiv, 1) := by decide +kernel
theorem dX4_goesTo_10 : decode cX4_goesTo 10 = .ok (.iadd, 1) := by decide +kernel
theorem dX4_goesTo_11 : decode cX4_goesTo 11 = .ok (.iaload, 1) := by decide +kernel
theorem dX4_goesTo_12 : decode cX4_goesTo 12 = .ok (.ifCond .ne 8, 3) := by decide +kernel
theorem dX4_goesTo_15 : decode cX4_goesTo 15 = .ok (.aload_n 0, 1) := by decide +kernel
theorem dX4_goesTo_16 : decode cX4_goesTo 16 = .ok (.iload_n 1, 1) := by decide +kernel
theorem dX4_goesTo_17 : decode cX4_goesTo 17 = .ok (.invokevirtual 64, 3) := by decide +kernel
theorem dX4_goesTo_20 : decode cX4_goesTo 20 = .ok (.aload_n 0, 1) := by decide +kernel
theorem dX4_goesTo_21 : decode cX4_goesTo 21 = .ok (.getfield 7, 3) := by decide +kernel
theorem dX4_goesTo_24 : decode cX4_goesTo 24 = .ok (.sipush 148, 3) := by decide +kernel
theorem dX4_goesTo_27 : decode cX4_goesTo 27 = .ok (.iload_n 1, 1) := by decide +kernel
theorem dX4_goesTo_28 : decode cX4_goesTo 28 = .ok (.iadd, 1) := by decide +kernel
theorem dX4_goesTo_29 : decode cX4_goesTo 29 = .ok (.iaload, 1) := by decide +kernel
theorem dX4_goesTo_30 : decode cX4_goesTo 30 = .ok (.iload_n 1, 1) := by decide +kernel
theorem dX4_goesTo_31 : decode cX4_goesTo 31 = .ok (.if_icmp .eq 17, 3) := by decide +kernel
theorem dX4_goesTo_34 : decode cX4_goesTo 34 = .ok (.aload_n 0, 1) := by decide +kernel
theorem dX4_goesTo_35 : decode cX4_goesTo 35 = .ok (.aload_n 0, 1) := by decide +kernel
theorem dX4_goesTo_36 : decode cX4_goesTo 36 = .ok (.getfield 7, 3) := by decide +kernel
theorem dX4_goesTo_39 : decode cX4_goesTo 39 = .ok (.sipush 148, 3) := by decide +kernel
theorem dX4_goesTo_42 : decode cX4_goesTo 42 = .ok (.iload_n 1, 1) := by decide +kernel
theorem dX4_goesTo_43 : decode cX4_goesTo 43 = .ok (.iadd, 1) := by decide +kernel
theorem dX4_goesTo_44 : decode cX4_goesTo 44 = .ok (.iaload, 1) := by decide +kernel
theorem dX4_goesTo_45 : decode cX4_goesTo 45 = .ok (.invokevirtual 64, 3) := by decide +kernel
theorem dX4_goesTo_48 : decode cX4_goesTo 48 = .ok (.return_, 1) := by decide +kernel
set_option maxRecDepth 20000 in
theorem ggX4_steps_X4_apart : GoodIn wsX4_steps wsX4_apart := goodIn_r _ [5] (by decide +kernel) (by decide +kernel)
set_option maxRecDepth 20000 in
theorem gX4_steps_X4_apart : GoodIn wsX4_steps (va_wsS RX4 60 yX4_apart wsX4_apart) := goodIn_app (goodIn_of _ (by decide +kernel)) ggX4_steps_X4_apart
theorem dX4_steps_0 : decode cX4_steps 0 = .ok (.aload_n 0, 1) := by decide +kernel
theorem dX4_steps_1 : decode cX4_steps 1 = .ok (.getfield 7, 3) := by decide +kernel
theorem dX4_steps_4 : decode cX4_steps 4 = .ok (.sipush 148, 3) := by decide +kernel
theorem dX4_steps_7 : decode cX4_steps 7 = .ok (.iload_n 1, 1) := by decide +kernel
theorem dX4_steps_8 : decode cX4_steps 8 = .ok (.iadd, 1) := by decide +kernel
theorem dX4_steps_9 : decode cX4_steps 9 = .ok (.iaload, 1) := by decide +kernel
theorem dX4_steps_10 : decode cX4_steps 10 = .ok (.istore_n 2, 1) := by decide +kernel
theorem dX4_steps_11 : decode cX4_steps 11 = .ok (.aload_n 0, 1) := by decide +kernel
theorem dX4_steps_12 : decode cX4_steps 12 = .ok (.getfield 7, 3) := by decide +kernel
theorem dX4_steps_15 : decode cX4_steps 15 = .ok (.bipush 16, 2) := by decide +kernel
theorem dX4_steps_17 : decode cX4_steps 17 = .ok (.iload_n 1, 1) := by decide +kernel
theorem dX4_steps_18 : decode cX4_steps 18 = .ok (.bipush 16, 2) := by decide +kernel
theorem dX4_steps_20 : decode cX4_steps 20 = .ok (.idiv, 1) := by decide +kernel
theorem dX4_steps_21 : decode cX4_steps 21 = .ok (.iadd, 1) := by decide +kernel
theorem dX4_steps_22 : decode cX4_steps 22 = .ok (.iaload, 1) := by decide +kernel
theorem dX4_steps_23 : decode cX4_steps 23 = .ok (.ifCond .ne 7, 3) := by decide +kernel
theorem dX4_steps_26 : decode cX4_steps 26 = .ok (.iconst 1, 1) := by decide +kernel
theorem dX4_steps_27 : decode cX4_steps 27 = .ok (.goto 4, 3) := by decide +kernel
theorem dX4_steps_30 : decode cX4_steps 30 = .ok (.iconst 0, 1) := by decide +kernel
theorem dX4_steps_31 : decode cX4_steps 31 = .ok (.istore_n 3, 1) := by decide +kernel
theorem dX4_steps_32 : decode cX4_steps 32 = .ok (.iload_n 3, 1) := by decide +kernel
theorem dX4_steps_33 : decode cX4_steps 33 = .ok (.ifCond .eq 22, 3) := by decide +kernel
theorem dX4_steps_36 : decode cX4_steps 36 = .ok (.aload_n 0, 1) := by decide +kernel
theorem dX4_steps_37 : decode cX4_steps 37 = .ok (.getfield 7, 3) := by decide +kernel
theorem dX4_steps_40 : decode cX4_steps 40 = .ok (.iconst 1, 1) := by decide +kernel
theorem dX4_steps_41 : decode cX4_steps 41 = .ok (.iaload, 1) := by decide +kernel
theorem dX4_steps_42 : decode cX4_steps 42 = .ok (.aload_n 0, 1) := by decide +kernel
theorem dX4_steps_43 : decode cX4_steps 43 = .ok (.getfield 7, 3) := by decide +kernel
theorem dX4_steps_46 : decode cX4_steps 46 = .ok (.iconst 2, 1) := by decide +kernel
theorem dX4_steps_47 : decode cX4_steps 47 = .ok (.iaload, 1) := by decide +kernel
theorem dX4_steps_48 : decode cX4_steps 48 = .ok (.iload_n 1, 1) := by decide +kernel
theorem dX4_steps_49 : decode cX4_steps 49 = .ok (.invokestatic 60, 3) := by decide +kernel
theorem dX4_steps_52 : decode cX4_steps 52 = .ok (.goto 19, 3) := by decide +kernel
theorem dX4_steps_55 : decode cX4_steps 55 = .ok (.aload_n 0, 1) := by decide +kernel
theorem dX4_steps_56 : decode cX4_steps 56 = .ok (.getfield 7, 3) := by decide +kernel
theorem dX4_steps_59 : decode cX4_steps 59 = .ok (.iconst 1, 1) := by decide +kernel
theorem dX4_steps_60 : decode cX4_steps 60 = .ok (.iaload, 1) := by decide +kernel
theorem dX4_steps_61 : decode cX4_steps 61 = .ok (.aload_n 0, 1) := by decide +kernel
theorem dX4_steps_62 : decode cX4_steps 62 = .ok (.getfield 7, 3) := by decide +kernel
theorem dX4_steps_65 : decode cX4_steps 65 = .ok (.iconst 2, 1) := by decide +kernel
theorem dX4_steps_66 : decode cX4_steps 66 = .ok (.iaload, 1) := by decide +kernel
theorem dX4_steps_67 : decode cX4_steps 67 = .ok (.iload_n 2, 1) := by decide +kernel
theorem dX4_steps_68 : decode cX4_steps 68 = .ok (.invokestatic 60, 3) := by decide +kernel
theorem dX4_steps_71 : decode cX4_steps 71 = .ok (.istore 4, 2) := by decide +kernel
theorem dX4_steps_73 : decode cX4_steps 73 = .ok (.iload_n 3, 1) := by decide +kernel
theorem dX4_steps_74 : decode cX4_steps 74 = .ok (.ifCond .eq 26, 3) := by decide +kernel
theorem dX4_steps_77 : decode cX4_steps 77 = .ok (.iload_n 2, 1) := by decide +kernel
theorem dX4_steps_78 : decode cX4_steps 78 = .ok (.iload_n 1, 1) := by decide +kernel
theorem dX4_steps_79 : decode cX4_steps 79 = .ok (.if_icmp .eq 21, 3) := by decide +kernel
theorem dX4_steps_82 : decode cX4_steps 82 = .ok (.iload 4, 2) := by decide +kernel
theorem dX4_steps_84 : decode cX4_steps 84 = .ok (.iload_n 1, 1) := by decide +kernel
theorem dX4_steps_85 : decode cX4_steps 85 = .ok (.bipush 16, 2) := by decide +kernel
theorem dX4_steps_87 : decode cX4_steps 87 = .ok (.irem, 1) := by decide +kernel
theorem dX4_steps_88 : decode cX4_steps 88 = .ok (.iload_n 1, 1) := by decide +kernel
theorem dX4_steps_89 : decode cX4_steps 89 = .ok (.bipush 16, 2) := by decide +kernel
theorem dX4_steps_91 : decode cX4_steps 91 = .ok (.idiv, 1) := by decide +kernel
theorem dX4_steps_92 : decode cX4_steps 92 = .ok (.iload_n 2, 1) := by decide +kernel
theorem dX4_steps_93 : decode cX4_steps 93 = .ok (.invokestatic 60, 3) := by decide +kernel
theorem dX4_steps_96 : decode cX4_steps 96 = .ok (.iadd, 1) := by decide +kernel
theorem dX4_steps_97 : decode cX4_steps 97 = .ok (.goto 5, 3) := by decide +kernel
theorem dX4_steps_100 : decode cX4_steps 100 = .ok (.iload 4, 2) := by decide +kernel
theorem dX4_steps_102 : decode cX4_steps 102 = .ok (.ireturn, 1) := by decide +kernel
set_option maxRecDepth 20000 in
theorem ggX4_looks_X4_state : GoodIn wsX4_looks wsX4_state := goodIn_r _ [6, 1, 50, 51, 52, 53, 54, 55, 56, 57, 58, 59] (by decide +kernel) (by decide +kernel)
set_option maxRecDepth 20000 in
theorem gX4_looks_X4_state : GoodIn wsX4_looks (wsV RX4 43 RX4 yX4_state wsX4_state) := goodIn_app (goodIn_of _ (by decide +kernel)) ggX4_looks_X4_state
set_option maxRecDepth 20000 in
theorem ggX4_looks_X4_lends : GoodIn wsX4_looks wsX4_lends := goodIn_r _ [10, 11, 12, 13, 5, 14, 15, 16, 17, 18, 1, 19, 20, 21, 22, 2, 3, 4, 6, 23, 24, 25, 26, 27, 28, 29, 30, 31, 32, 33, 34, 35, 36, 37, 50, 51, 52, 53, 54, 55, 56, 57, 58, 59] (by decide +kernel) (by decide +kernel)
set_option maxRecDepth 20000 in
theorem gX4_looks_X4_lends : GoodIn wsX4_looks (wsV RX4 68 RX4 yX4_lends wsX4_lends) := goodIn_app (goodIn_of _ (by decide +kernel)) ggX4_looks_X4_lends
set_option maxRecDepth 20000 in
theorem ggX4_looks_X4_goes : GoodIn wsX4_looks wsX4_goes := goodIn_r _ [41, 1, 42, 43, 5, 44, 50, 51, 52, 53, 54, 55, 56, 57, 58, 59] (by decide +kernel) (by decide +kernel)
set_option maxRecDepth 20000 in
theorem gX4_looks_X4_goes : GoodIn wsX4_looks (wsV RX4 64 RX4 yX4_goes wsX4_goes) := goodIn_app (goodIn_of _ (by decide +kernel)) ggX4_looks_X4_goes
set_option maxRecDepth 20000 in
theorem ggX4_looks_X4_wears : GoodIn wsX4_looks wsX4_wears := goodIn_r _ [48, 1, 49, 50, 51, 52, 53, 54, 55, 56, 57, 58, 59] (by decide +kernel) (by decide +kernel)
set_option maxRecDepth 20000 in
theorem gX4_looks_X4_wears : GoodIn wsX4_looks (wsV RX4 71 RX4 yX4_wears wsX4_wears) := goodIn_app (goodIn_of _ (by decide +kernel)) ggX4_looks_X4_wears
theorem dX4_looks_0 : decode cX4_looks 0 = .ok (.aload_n 0, 1) := by decide +kernel
theorem dX4_looks_1 : decode cX4_looks 1 = .ok (.getfield 7, 3) := by decide +kernel
theorem dX4_looks_4 : decode cX4_looks 4 = .ok (.sipush 148, 3) := by decide +kernel
theorem dX4_looks_7 : decode cX4_looks 7 = .ok (.iload_n 1, 1) := by decide +kernel
theorem dX4_looks_8 : decode cX4_looks 8 = .ok (.iadd, 1) := by decide +kernel
theorem dX4_looks_9 : decode cX4_looks 9 = .ok (.iaload, 1) := by decide +kernel
theorem dX4_looks_10 : decode cX4_looks 10 = .ok (.istore_n 2, 1) := by decide +kernel
theorem dX4_looks_11 : decode cX4_looks 11 = .ok (.aload_n 0, 1) := by decide +kernel
theorem dX4_looks_12 : decode cX4_looks 12 = .ok (.iload_n 2, 1) := by decide +kernel
theorem dX4_looks_13 : decode cX4_looks 13 = .ok (.invokevirtual 43, 3) := by decide +kernel
theorem dX4_looks_16 : decode cX4_looks 16 = .ok (.ifCond .ne 4, 3) := by decide +kernel
theorem dX4_looks_19 : decode cX4_looks 19 = .ok (.return_, 1) := by decide +kernel
theorem dX4_looks_20 : decode cX4_looks 20 = .ok (.aload_n 0, 1) := by decide +kernel
theorem dX4_looks_21 : decode cX4_looks 21 = .ok (.iload_n 1, 1) := by decide +kernel
theorem dX4_looks_22 : decode cX4_looks 22 = .ok (.invokevirtual 68, 3) := by decide +kernel
theorem dX4_looks_25 : decode cX4_looks 25 = .ok (.istore_n 3, 1) := by decide +kernel
theorem dX4_looks_26 : decode cX4_looks 26 = .ok (.iload_n 3, 1) := by decide +kernel
theorem dX4_looks_27 : decode cX4_looks 27 = .ok (.bipush (-5), 2) := by decide +kernel
theorem dX4_looks_29 : decode cX4_looks 29 = .ok (.if_icmp .eq 52, 3) := by decide +kernel
theorem dX4_looks_32 : decode cX4_looks 32 = .ok (.aload_n 0, 1) := by decide +kernel
theorem dX4_looks_33 : decode cX4_looks 33 = .ok (.getfield 7, 3) := by decide +kernel
theorem dX4_looks_36 : decode cX4_looks 36 = .ok (.sipush 148, 3) := by decide +kernel
theorem dX4_looks_39 : decode cX4_looks 39 = .ok (.iload_n 1, 1) := by decide +kernel
theorem dX4_looks_40 : decode cX4_looks 40 = .ok (.iadd, 1) := by decide +kernel
theorem dX4_looks_41 : decode cX4_looks 41 = .ok (.iload_n 3, 1) := by decide +kernel
theorem dX4_looks_42 : decode cX4_looks 42 = .ok (.iastore, 1) := by decide +kernel
theorem dX4_looks_43 : decode cX4_looks 43 = .ok (.aload_n 0, 1) := by decide +kernel
theorem dX4_looks_44 : decode cX4_looks 44 = .ok (.getfield 7, 3) := by decide +kernel
theorem dX4_looks_47 : decode cX4_looks 47 = .ok (.iconst 4, 1) := by decide +kernel
theorem dX4_looks_48 : decode cX4_looks 48 = .ok (.dup2, 1) := by decide +kernel
theorem dX4_looks_49 : decode cX4_looks 49 = .ok (.iaload, 1) := by decide +kernel
theorem dX4_looks_50 : decode cX4_looks 50 = .ok (.iconst 1, 1) := by decide +kernel
theorem dX4_looks_51 : decode cX4_looks 51 = .ok (.iadd, 1) := by decide +kernel
theorem dX4_looks_52 : decode cX4_looks 52 = .ok (.iastore, 1) := by decide +kernel
theorem dX4_looks_53 : decode cX4_looks 53 = .ok (.aload_n 0, 1) := by decide +kernel
theorem dX4_looks_54 : decode cX4_looks 54 = .ok (.getfield 7, 3) := by decide +kernel
theorem dX4_looks_57 : decode cX4_looks 57 = .ok (.sipush 212, 3) := by decide +kernel
theorem dX4_looks_60 : decode cX4_looks 60 = .ok (.iload_n 1, 1) := by decide +kernel
theorem dX4_looks_61 : decode cX4_looks 61 = .ok (.iadd, 1) := by decide +kernel
theorem dX4_looks_62 : decode cX4_looks 62 = .ok (.dup2, 1) := by decide +kernel
theorem dX4_looks_63 : decode cX4_looks 63 = .ok (.iaload, 1) := by decide +kernel
theorem dX4_looks_64 : decode cX4_looks 64 = .ok (.iconst 1, 1) := by decide +kernel
theorem dX4_looks_65 : decode cX4_looks 65 = .ok (.iadd, 1) := by decide +kernel
theorem dX4_looks_66 : decode cX4_looks 66 = .ok (.iastore, 1) := by decide +kernel
theorem dX4_looks_67 : decode cX4_looks 67 = .ok (.aload_n 0, 1) := by decide +kernel
theorem dX4_looks_68 : decode cX4_looks 68 = .ok (.iload_n 3, 1) := by decide +kernel
theorem dX4_looks_69 : decode cX4_looks 69 = .ok (.invokevirtual 64, 3) := by decide +kernel
theorem dX4_looks_72 : decode cX4_looks 72 = .ok (.aload_n 0, 1) := by decide +kernel
theorem dX4_looks_73 : decode cX4_looks 73 = .ok (.iload_n 3, 1) := by decide +kernel
theorem dX4_looks_74 : decode cX4_looks 74 = .ok (.iconst 1, 1) := by decide +kernel
theorem dX4_looks_75 : decode cX4_looks 75 = .ok (.invokevirtual 71, 3) := by decide +kernel
theorem dX4_looks_78 : decode cX4_looks 78 = .ok (.goto 33, 3) := by decide +kernel
theorem dX4_looks_81 : decode cX4_looks 81 = .ok (.aload_n 0, 1) := by decide +kernel
theorem dX4_looks_82 : decode cX4_looks 82 = .ok (.iload_n 2, 1) := by decide +kernel
theorem dX4_looks_83 : decode cX4_looks 83 = .ok (.invokevirtual 43, 3) := by decide +kernel
theorem dX4_looks_86 : decode cX4_looks 86 = .ok (.iconst 2, 1) := by decide +kernel
theorem dX4_looks_87 : decode cX4_looks 87 = .ok (.if_icmp .ne 24, 3) := by decide +kernel
theorem dX4_looks_90 : decode cX4_looks 90 = .ok (.aload_n 0, 1) := by decide +kernel
theorem dX4_looks_91 : decode cX4_looks 91 = .ok (.getfield 7, 3) := by decide +kernel
theorem dX4_looks_94 : decode cX4_looks 94 = .ok (.sipush 148, 3) := by decide +kernel
theorem dX4_looks_97 : decode cX4_looks 97 = .ok (.iload_n 1, 1) := by decide +kernel
theorem dX4_looks_98 : decode cX4_looks 98 = .ok (.iadd, 1) := by decide +kernel
theorem dX4_looks_99 : decode cX4_looks 99 = .ok (.iconst (-1), 1) := by decide +kernel
theorem dX4_looks_100 : decode cX4_looks 100 = .ok (.iastore, 1) := by decide +kernel
theorem dX4_looks_101 : decode cX4_looks 101 = .ok (.aload_n 0, 1) := by decide +kernel
theorem dX4_looks_102 : decode cX4_looks 102 = .ok (.getfield 7, 3) := by decide +kernel
theorem dX4_looks_105 : decode cX4_looks 105 = .ok (.iconst 5, 1) := by decide +kernel
theorem dX4_looks_106 : decode cX4_looks 106 = .ok (.dup2, 1) := by decide +kernel
theorem dX4_looks_107 : decode cX4_looks 107 = .ok (.iaload, 1) := by decide +kernel
theorem dX4_looks_108 : decode cX4_looks 108 = .ok (.iconst 1, 1) := by decide +kernel
theorem dX4_looks_109 : decode cX4_looks 109 = .ok (.iadd, 1) := by decide +kernel
theorem dX4_looks_110 : decode cX4_looks 110 = .ok (.iastore, 1) := by decide +kernel
theorem dX4_looks_111 : decode cX4_looks 111 = .ok (.return_, 1) := by decide +kernel
set_option maxRecDepth 20000 in
theorem ggX4_reads_X4_isAddress : GoodIn wsX4_reads wsX4_isAddress := goodIn_r _ [6, 7, 8, 5, 9, 10, 11, 12, 13, 1, 62, 63, 64, 65, 66, 67, 68, 69, 70, 71] (by decide +kernel) (by decide +kernel)
set_option maxRecDepth 20000 in
theorem gX4_reads_X4_isAddress : GoodIn wsX4_reads (wsV RX4 40 RX4 yX4_isAddress wsX4_isAddress) := goodIn_app (goodIn_of _ (by decide +kernel)) ggX4_reads_X4_isAddress
set_option maxRecDepth 20000 in
theorem ggX4_reads_X4_isLost : GoodIn wsX4_reads wsX4_isLost := goodIn_r _ [17, 1, 62, 63, 64, 65, 66, 67, 68, 69, 70, 71] (by decide +kernel) (by decide +kernel)
set_option maxRecDepth 20000 in
theorem gX4_reads_X4_isLost : GoodIn wsX4_reads (wsV RX4 75 RX4 yX4_isLost wsX4_isLost) := goodIn_app (goodIn_of _ (by decide +kernel)) ggX4_reads_X4_isLost
set_option maxRecDepth 20000 in
theorem ggX4_reads_X4_goesTo : GoodIn wsX4_reads wsX4_goesTo := goodIn_r _ [21, 1, 22, 23, 24, 5, 25, 26, 27, 28, 62, 63, 64, 65, 66, 67, 68, 69, 70, 71] (by decide +kernel) (by decide +kernel)
set_option maxRecDepth 20000 in
theorem gX4_reads_X4_goesTo : GoodIn wsX4_reads (wsV RX4 78 RX4 yX4_goesTo wsX4_goesTo) := goodIn_app (goodIn_of _ (by decide +kernel)) ggX4_reads_X4_goesTo
set_option maxRecDepth 20000 in
theorem ggX4_reads_X4_wears : GoodIn wsX4_reads wsX4_wears := goodIn_r _ [32, 1, 33, 62, 63, 64, 65, 66, 67, 68, 69, 70, 71] (by decide +kernel) (by decide +kernel)
set_option maxRecDepth 20000 in
theorem gX4_reads_X4_wears : GoodIn wsX4_reads (wsV RX4 71 RX4 yX4_wears wsX4_wears) := goodIn_app (goodIn_of _ (by decide +kernel)) ggX4_reads_X4_wears
set_option maxRecDepth 20000 in
theorem ggX4_reads_X4_looks : GoodIn wsX4_reads wsX4_looks := goodIn_r _ [37, 1, 38, 39, 40, 5, 41, 42, 43, 44, 45, 46, 47, 48, 49, 50, 51, 52, 53, 10, 11, 12, 13, 54, 55, 56, 57, 2, 3, 4, 6, 7, 8, 9, 58, 59, 60, 61, 22, 23, 24, 25, 26, 27, 28, 29, 30, 31, 32, 33, 62, 63, 64, 65, 66, 67, 68, 69, 70, 71] (by decide +kernel) (by decide +kernel)
set_option maxRecDepth 20000 in
theorem gX4_reads_X4_looks : GoodIn wsX4_reads (wsV RX4 81 RX4 yX4_looks wsX4_looks) := goodIn_app (goodIn_of _ (by decide +kernel)) ggX4_reads_X4_looks
theorem dX4_reads_0 : decode cX4_reads 0 = .ok (.aload_n 0, 1) := by decide +kernel
theorem dX4_reads_1 : decode cX4_reads 1 = .ok (.iload_n 1, 1) := by decide +kernel
theorem dX4_reads_2 : decode cX4_reads 2 = .ok (.invokevirtual 40, 3) := by decide +kernel
theorem dX4_reads_5 : decode cX4_reads 5 = .ok (.ifCond .ne 5, 3) := by decide +kernel
theorem dX4_reads_8 : decode cX4_reads 8 = .ok (.iconst (-1), 1) := by decide +kernel
theorem dX4_reads_9 : decode cX4_reads 9 = .ok (.ireturn, 1) := by decide +kernel
theorem dX4_reads_10 : decode cX4_reads 10 = .ok (.aload_n 0, 1) := by decide +kernel
theorem dX4_reads_11 : decode cX4_reads 11 = .ok (.iload_n 1, 1) := by decide +kernel
theorem dX4_reads_12 : decode cX4_reads 12 = .ok (.invokevirtual 75, 3) := by decide +kernel
theorem dX4_reads_15 : decode cX4_reads 15 = .ok (.ifCond .eq 6, 3) := by decide +kernel
theorem dX4_reads_18 : decode cX4_reads 18 = .ok (.bipush (-4), 2) := by decide +kernel
theorem dX4_reads_20 : decode cX4_reads 20 = .ok (.ireturn, 1) := by decide +kernel
theorem dX4_reads_21 : decode cX4_reads 21 = .ok (.aload_n 0, 1) := by decide +kernel
theorem dX4_reads_22 : decode cX4_reads 22 = .ok (.getfield 7, 3) := by decide +kernel
theorem dX4_reads_25 : decode cX4_reads 25 = .ok (.bipush 6, 2) := by decide +kernel
theorem dX4_reads_27 : decode cX4_reads 27 = .ok (.dup2, 1) := by decide +kernel
theorem dX4_reads_28 : decode cX4_reads 28 = .ok (.iaload, 1) := by decide +kernel
theorem dX4_reads_29 : decode cX4_reads 29 = .ok (.iconst 1, 1) := by decide +kernel
theorem dX4_reads_30 : decode cX4_reads 30 = .ok (.iadd, 1) := by decide +kernel
theorem dX4_reads_31 : decode cX4_reads 31 = .ok (.iastore, 1) := by decide +kernel
theorem dX4_reads_32 : decode cX4_reads 32 = .ok (.aload_n 0, 1) := by decide +kernel
theorem dX4_reads_33 : decode cX4_reads 33 = .ok (.iload_n 1, 1) := by decide +kernel
theorem dX4_reads_34 : decode cX4_reads 34 = .ok (.invokevirtual 78, 3) := by decide +kernel
theorem dX4_reads_37 : decode cX4_reads 37 = .ok (.aload_n 0, 1) := by decide +kernel
theorem dX4_reads_38 : decode cX4_reads 38 = .ok (.aload_n 0, 1) := by decide +kernel
theorem dX4_reads_39 : decode cX4_reads 39 = .ok (.getfield 7, 3) := by decide +kernel
theorem dX4_reads_42 : decode cX4_reads 42 = .ok (.sipush 148, 3) := by decide +kernel
theorem dX4_reads_45 : decode cX4_reads 45 = .ok (.iload_n 1, 1) := by decide +kernel
theorem dX4_reads_46 : decode cX4_reads 46 = .ok (.iadd, 1) := by decide +kernel
theorem dX4_reads_47 : decode cX4_reads 47 = .ok (.iaload, 1) := by decide +kernel
theorem dX4_reads_48 : decode cX4_reads 48 = .ok (.iconst 0, 1) := by decide +kernel
theorem dX4_reads_49 : decode cX4_reads 49 = .ok (.invokevirtual 71, 3) := by decide +kernel
theorem dX4_reads_52 : decode cX4_reads 52 = .ok (.aload_n 0, 1) := by decide +kernel
theorem dX4_reads_53 : decode cX4_reads 53 = .ok (.getfield 7, 3) := by decide +kernel
theorem dX4_reads_56 : decode cX4_reads 56 = .ok (.bipush 84, 2) := by decide +kernel
theorem dX4_reads_58 : decode cX4_reads 58 = .ok (.iload_n 1, 1) := by decide +kernel
theorem dX4_reads_59 : decode cX4_reads 59 = .ok (.iadd, 1) := by decide +kernel
theorem dX4_reads_60 : decode cX4_reads 60 = .ok (.iaload, 1) := by decide +kernel
theorem dX4_reads_61 : decode cX4_reads 61 = .ok (.istore_n 2, 1) := by decide +kernel
theorem dX4_reads_62 : decode cX4_reads 62 = .ok (.aload_n 0, 1) := by decide +kernel
theorem dX4_reads_63 : decode cX4_reads 63 = .ok (.iload_n 1, 1) := by decide +kernel
theorem dX4_reads_64 : decode cX4_reads 64 = .ok (.invokevirtual 81, 3) := by decide +kernel
theorem dX4_reads_67 : decode cX4_reads 67 = .ok (.iload_n 2, 1) := by decide +kernel
