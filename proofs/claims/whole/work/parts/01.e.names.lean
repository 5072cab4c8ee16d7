theorem dX4_reads_68 : decode cX4_reads 68 = .ok (.ireturn, 1) := by decide +kernel
set_option maxRecDepth 20000 in
theorem ggX4_writes_X4_isAddress : GoodIn wsX4_writes wsX4_isAddress := goodIn_r _ [6, 7, 8, 5, 9, 10, 11, 12, 13, 1, 62, 63, 64, 65, 66, 67, 68, 69, 70, 71] (by decide +kernel) (by decide +kernel)
set_option maxRecDepth 20000 in
theorem gX4_writes_X4_isAddress : GoodIn wsX4_writes (wsV RX4 40 RX4 yX4_isAddress wsX4_isAddress) := goodIn_app (goodIn_of _ (by decide +kernel)) ggX4_writes_X4_isAddress
set_option maxRecDepth 20000 in
theorem ggX4_writes_X4_in : GoodIn wsX4_writes wsX4_in := goodIn_r _ [9] (by decide +kernel) (by decide +kernel)
set_option maxRecDepth 20000 in
theorem gX4_writes_X4_in : GoodIn wsX4_writes (va_wsS RX4 32 yX4_in wsX4_in) := goodIn_app (goodIn_of _ (by decide +kernel)) ggX4_writes_X4_in
set_option maxRecDepth 20000 in
theorem ggX4_writes_X4_isLost : GoodIn wsX4_writes wsX4_isLost := goodIn_r _ [17, 1, 62, 63, 64, 65, 66, 67, 68, 69, 70, 71] (by decide +kernel) (by decide +kernel)
set_option maxRecDepth 20000 in
theorem gX4_writes_X4_isLost : GoodIn wsX4_writes (wsV RX4 75 RX4 yX4_isLost wsX4_isLost) := goodIn_app (goodIn_of _ (by decide +kernel)) ggX4_writes_X4_isLost
set_option maxRecDepth 20000 in
theorem ggX4_writes_X4_lends : GoodIn wsX4_writes wsX4_lends := goodIn_r _ [21, 22, 23, 24, 5, 25, 26, 27, 28, 29, 1, 10, 11, 12, 13, 30, 31, 32, 33, 34, 35, 36, 37, 2, 3, 4, 6, 7, 8, 9, 38, 39, 40, 41, 62, 63, 64, 65, 66, 67, 68, 69, 70, 71] (by decide +kernel) (by decide +kernel)
set_option maxRecDepth 20000 in
theorem gX4_writes_X4_lends : GoodIn wsX4_writes (wsV RX4 68 RX4 yX4_lends wsX4_lends) := goodIn_app (goodIn_of _ (by decide +kernel)) ggX4_writes_X4_lends
set_option maxRecDepth 20000 in
theorem ggX4_writes_X4_goesTo : GoodIn wsX4_writes wsX4_goesTo := goodIn_r _ [45, 1, 46, 47, 48, 5, 49, 50, 51, 52, 62, 63, 64, 65, 66, 67, 68, 69, 70, 71] (by decide +kernel) (by decide +kernel)
set_option maxRecDepth 20000 in
theorem gX4_writes_X4_goesTo : GoodIn wsX4_writes (wsV RX4 78 RX4 yX4_goesTo wsX4_goesTo) := goodIn_app (goodIn_of _ (by decide +kernel)) ggX4_writes_X4_goesTo
set_option maxRecDepth 20000 in
theorem ggX4_writes_X4_wears : GoodIn wsX4_writes wsX4_wears := goodIn_r _ [56, 1, 57, 62, 63, 64, 65, 66, 67, 68, 69, 70, 71] (by decide +kernel) (by decide +kernel)
set_option maxRecDepth 20000 in
theorem gX4_writes_X4_wears : GoodIn wsX4_writes (wsV RX4 71 RX4 yX4_wears wsX4_wears) := goodIn_app (goodIn_of _ (by decide +kernel)) ggX4_writes_X4_wears
set_option maxRecDepth 20000 in
theorem ggX4_writes_X4_looks : GoodIn wsX4_writes wsX4_looks := goodIn_r _ [61, 1, 30, 31, 32, 5, 33, 18, 19, 20, 21, 22, 23, 24, 25, 26, 27, 28, 29, 10, 11, 12, 13, 34, 35, 36, 37, 2, 3, 4, 6, 7, 8, 9, 38, 39, 40, 41, 46, 47, 48, 49, 50, 51, 52, 53, 54, 55, 56, 57, 62, 63, 64, 65, 66, 67, 68, 69, 70, 71] (by decide +kernel) (by decide +kernel)
set_option maxRecDepth 20000 in
theorem gX4_writes_X4_looks : GoodIn wsX4_writes (wsV RX4 81 RX4 yX4_looks wsX4_looks) := goodIn_app (goodIn_of _ (by decide +kernel)) ggX4_writes_X4_looks
theorem dX4_writes_0 : decode cX4_writes 0 = .ok (.aload_n 0, 1) := by decide +kernel
theorem dX4_writes_1 : decode cX4_writes 1 = .ok (.iload_n 1, 1) := by decide +kernel
theorem dX4_writes_2 : decode cX4_writes 2 = .ok (.invokevirtual 40, 3) := by decide +kernel
theorem dX4_writes_5 : decode cX4_writes 5 = .ok (.ifCond .ne 5, 3) := by decide +kernel
theorem dX4_writes_8 : decode cX4_writes 8 = .ok (.iconst (-1), 1) := by decide +kernel
theorem dX4_writes_9 : decode cX4_writes 9 = .ok (.ireturn, 1) := by decide +kernel
theorem dX4_writes_10 : decode cX4_writes 10 = .ok (.iload_n 2, 1) := by decide +kernel
theorem dX4_writes_11 : decode cX4_writes 11 = .ok (.iconst 0, 1) := by decide +kernel
theorem dX4_writes_12 : decode cX4_writes 12 = .ok (.sipush 999, 3) := by decide +kernel
theorem dX4_writes_15 : decode cX4_writes 15 = .ok (.invokestatic 32, 3) := by decide +kernel
theorem dX4_writes_18 : decode cX4_writes 18 = .ok (.ifCond .ne 6, 3) := by decide +kernel
theorem dX4_writes_21 : decode cX4_writes 21 = .ok (.bipush (-2), 2) := by decide +kernel
theorem dX4_writes_23 : decode cX4_writes 23 = .ok (.ireturn, 1) := by decide +kernel
theorem dX4_writes_24 : decode cX4_writes 24 = .ok (.aload_n 0, 1) := by decide +kernel
theorem dX4_writes_25 : decode cX4_writes 25 = .ok (.iload_n 1, 1) := by decide +kernel
theorem dX4_writes_26 : decode cX4_writes 26 = .ok (.invokevirtual 75, 3) := by decide +kernel
theorem dX4_writes_29 : decode cX4_writes 29 = .ok (.ifCond .eq 29, 3) := by decide +kernel
theorem dX4_writes_32 : decode cX4_writes 32 = .ok (.aload_n 0, 1) := by decide +kernel
theorem dX4_writes_33 : decode cX4_writes 33 = .ok (.iload_n 1, 1) := by decide +kernel
theorem dX4_writes_34 : decode cX4_writes 34 = .ok (.invokevirtual 68, 3) := by decide +kernel
theorem dX4_writes_37 : decode cX4_writes 37 = .ok (.istore_n 3, 1) := by decide +kernel
theorem dX4_writes_38 : decode cX4_writes 38 = .ok (.iload_n 3, 1) := by decide +kernel
theorem dX4_writes_39 : decode cX4_writes 39 = .ok (.bipush (-5), 2) := by decide +kernel
theorem dX4_writes_41 : decode cX4_writes 41 = .ok (.if_icmp .ne 6, 3) := by decide +kernel
theorem dX4_writes_44 : decode cX4_writes 44 = .ok (.bipush (-4), 2) := by decide +kernel
theorem dX4_writes_46 : decode cX4_writes 46 = .ok (.ireturn, 1) := by decide +kernel
theorem dX4_writes_47 : decode cX4_writes 47 = .ok (.aload_n 0, 1) := by decide +kernel
theorem dX4_writes_48 : decode cX4_writes 48 = .ok (.getfield 7, 3) := by decide +kernel
theorem dX4_writes_51 : decode cX4_writes 51 = .ok (.sipush 148, 3) := by decide +kernel
theorem dX4_writes_54 : decode cX4_writes 54 = .ok (.iload_n 1, 1) := by decide +kernel
theorem dX4_writes_55 : decode cX4_writes 55 = .ok (.iadd, 1) := by decide +kernel
theorem dX4_writes_56 : decode cX4_writes 56 = .ok (.iload_n 3, 1) := by decide +kernel
theorem dX4_writes_57 : decode cX4_writes 57 = .ok (.iastore, 1) := by decide +kernel
theorem dX4_writes_58 : decode cX4_writes 58 = .ok (.aload_n 0, 1) := by decide +kernel
theorem dX4_writes_59 : decode cX4_writes 59 = .ok (.getfield 7, 3) := by decide +kernel
theorem dX4_writes_62 : decode cX4_writes 62 = .ok (.bipush 7, 2) := by decide +kernel
theorem dX4_writes_64 : decode cX4_writes 64 = .ok (.dup2, 1) := by decide +kernel
theorem dX4_writes_65 : decode cX4_writes 65 = .ok (.iaload, 1) := by decide +kernel
theorem dX4_writes_66 : decode cX4_writes 66 = .ok (.iconst 1, 1) := by decide +kernel
theorem dX4_writes_67 : decode cX4_writes 67 = .ok (.iadd, 1) := by decide +kernel
theorem dX4_writes_68 : decode cX4_writes 68 = .ok (.iastore, 1) := by decide +kernel
theorem dX4_writes_69 : decode cX4_writes 69 = .ok (.aload_n 0, 1) := by decide +kernel
theorem dX4_writes_70 : decode cX4_writes 70 = .ok (.iload_n 1, 1) := by decide +kernel
theorem dX4_writes_71 : decode cX4_writes 71 = .ok (.invokevirtual 78, 3) := by decide +kernel
theorem dX4_writes_74 : decode cX4_writes 74 = .ok (.aload_n 0, 1) := by decide +kernel
theorem dX4_writes_75 : decode cX4_writes 75 = .ok (.aload_n 0, 1) := by decide +kernel
theorem dX4_writes_76 : decode cX4_writes 76 = .ok (.getfield 7, 3) := by decide +kernel
theorem dX4_writes_79 : decode cX4_writes 79 = .ok (.sipush 148, 3) := by decide +kernel
theorem dX4_writes_82 : decode cX4_writes 82 = .ok (.iload_n 1, 1) := by decide +kernel
theorem dX4_writes_83 : decode cX4_writes 83 = .ok (.iadd, 1) := by decide +kernel
theorem dX4_writes_84 : decode cX4_writes 84 = .ok (.iaload, 1) := by decide +kernel
theorem dX4_writes_85 : decode cX4_writes 85 = .ok (.iconst 1, 1) := by decide +kernel
theorem dX4_writes_86 : decode cX4_writes 86 = .ok (.invokevirtual 71, 3) := by decide +kernel
theorem dX4_writes_89 : decode cX4_writes 89 = .ok (.aload_n 0, 1) := by decide +kernel
theorem dX4_writes_90 : decode cX4_writes 90 = .ok (.getfield 7, 3) := by decide +kernel
theorem dX4_writes_93 : decode cX4_writes 93 = .ok (.bipush 84, 2) := by decide +kernel
theorem dX4_writes_95 : decode cX4_writes 95 = .ok (.iload_n 1, 1) := by decide +kernel
theorem dX4_writes_96 : decode cX4_writes 96 = .ok (.iadd, 1) := by decide +kernel
theorem dX4_writes_97 : decode cX4_writes 97 = .ok (.iload_n 2, 1) := by decide +kernel
theorem dX4_writes_98 : decode cX4_writes 98 = .ok (.iastore, 1) := by decide +kernel
theorem dX4_writes_99 : decode cX4_writes 99 = .ok (.aload_n 0, 1) := by decide +kernel
theorem dX4_writes_100 : decode cX4_writes 100 = .ok (.iload_n 1, 1) := by decide +kernel
theorem dX4_writes_101 : decode cX4_writes 101 = .ok (.invokevirtual 81, 3) := by decide +kernel
theorem dX4_writes_104 : decode cX4_writes 104 = .ok (.aload_n 0, 1) := by decide +kernel
theorem dX4_writes_105 : decode cX4_writes 105 = .ok (.iload_n 1, 1) := by decide +kernel
theorem dX4_writes_106 : decode cX4_writes 106 = .ok (.invokevirtual 75, 3) := by decide +kernel
theorem dX4_writes_109 : decode cX4_writes 109 = .ok (.ifCond .eq 8, 3) := by decide +kernel
theorem dX4_writes_112 : decode cX4_writes 112 = .ok (.bipush 100, 2) := by decide +kernel
theorem dX4_writes_114 : decode cX4_writes 114 = .ok (.goto 13, 3) := by decide +kernel
theorem dX4_writes_117 : decode cX4_writes 117 = .ok (.aload_n 0, 1) := by decide +kernel
theorem dX4_writes_118 : decode cX4_writes 118 = .ok (.getfield 7, 3) := by decide +kernel
theorem dX4_writes_121 : decode cX4_writes 121 = .ok (.sipush 148, 3) := by decide +kernel
theorem dX4_writes_124 : decode cX4_writes 124 = .ok (.iload_n 1, 1) := by decide +kernel
theorem dX4_writes_125 : decode cX4_writes 125 = .ok (.iadd, 1) := by decide +kernel
theorem dX4_writes_126 : decode cX4_writes 126 = .ok (.iaload, 1) := by decide +kernel
theorem dX4_writes_127 : decode cX4_writes 127 = .ok (.ireturn, 1) := by decide +kernel
set_option maxRecDepth 20000 in
theorem ggX4_setLimit_X4_in : GoodIn wsX4_setLimit wsX4_in := goodIn_r _ [5] (by decide +kernel) (by decide +kernel)
set_option maxRecDepth 20000 in
theorem gX4_setLimit_X4_in : GoodIn wsX4_setLimit (va_wsS RX4 32 yX4_in wsX4_in) := goodIn_app (goodIn_of _ (by decide +kernel)) ggX4_setLimit_X4_in
set_option maxRecDepth 20000 in
theorem ggX4_setLimit_X4_record : GoodIn wsX4_setLimit wsX4_record := goodIn_r _ [9, 10, 11, 12, 13, 14, 15, 16, 17, 18, 19, 20, 21] (by decide +kernel) (by decide +kernel)
set_option maxRecDepth 20000 in
theorem gX4_setLimit_X4_record : GoodIn wsX4_setLimit (wsV RX4 84 RX4 yX4_record wsX4_record) := goodIn_app (goodIn_of _ (by decide +kernel)) ggX4_setLimit_X4_record
theorem dX4_setLimit_0 : decode cX4_setLimit 0 = .ok (.iload_n 1, 1) := by decide +kernel
theorem dX4_setLimit_1 : decode cX4_setLimit 1 = .ok (.iconst 1, 1) := by decide +kernel
theorem dX4_setLimit_2 : decode cX4_setLimit 2 = .ok (.sipush 999, 3) := by decide +kernel
theorem dX4_setLimit_5 : decode cX4_setLimit 5 = .ok (.invokestatic 32, 3) := by decide +kernel
theorem dX4_setLimit_8 : decode cX4_setLimit 8 = .ok (.ifCond .ne 6, 3) := by decide +kernel
theorem dX4_setLimit_11 : decode cX4_setLimit 11 = .ok (.bipush (-2), 2) := by decide +kernel
theorem dX4_setLimit_13 : decode cX4_setLimit 13 = .ok (.ireturn, 1) := by decide +kernel
theorem dX4_setLimit_14 : decode cX4_setLimit 14 = .ok (.aload_n 0, 1) := by decide +kernel
theorem dX4_setLimit_15 : decode cX4_setLimit 15 = .ok (.getfield 7, 3) := by decide +kernel
theorem dX4_setLimit_18 : decode cX4_setLimit 18 = .ok (.iconst 0, 1) := by decide +kernel
theorem dX4_setLimit_19 : decode cX4_setLimit 19 = .ok (.iaload, 1) := by decide +kernel
theorem dX4_setLimit_20 : decode cX4_setLimit 20 = .ok (.istore_n 2, 1) := by decide +kernel
theorem dX4_setLimit_21 : decode cX4_setLimit 21 = .ok (.iload_n 2, 1) := by decide +kernel
theorem dX4_setLimit_22 : decode cX4_setLimit 22 = .ok (.iload_n 1, 1) := by decide +kernel
theorem dX4_setLimit_23 : decode cX4_setLimit 23 = .ok (.if_icmp .ne 6, 3) := by decide +kernel
theorem dX4_setLimit_26 : decode cX4_setLimit 26 = .ok (.bipush (-5), 2) := by decide +kernel
theorem dX4_setLimit_28 : decode cX4_setLimit 28 = .ok (.ireturn, 1) := by decide +kernel
theorem dX4_setLimit_29 : decode cX4_setLimit 29 = .ok (.aload_n 0, 1) := by decide +kernel
theorem dX4_setLimit_30 : decode cX4_setLimit 30 = .ok (.aload_n 0, 1) := by decide +kernel
theorem dX4_setLimit_31 : decode cX4_setLimit 31 = .ok (.getfield 7, 3) := by decide +kernel
theorem dX4_setLimit_34 : decode cX4_setLimit 34 = .ok (.invokevirtual 84, 3) := by decide +kernel
theorem dX4_setLimit_37 : decode cX4_setLimit 37 = .ok (.aload_n 0, 1) := by decide +kernel
theorem dX4_setLimit_38 : decode cX4_setLimit 38 = .ok (.getfield 7, 3) := by decide +kernel
theorem dX4_setLimit_41 : decode cX4_setLimit 41 = .ok (.iconst 0, 1) := by decide +kernel
theorem dX4_setLimit_42 : decode cX4_setLimit 42 = .ok (.iload_n 1, 1) := by decide +kernel
theorem dX4_setLimit_43 : decode cX4_setLimit 43 = .ok (.iastore, 1) := by decide +kernel
theorem dX4_setLimit_44 : decode cX4_setLimit 44 = .ok (.iload_n 2, 1) := by decide +kernel
theorem dX4_setLimit_45 : decode cX4_setLimit 45 = .ok (.ireturn, 1) := by decide +kernel
theorem dX4_wear_0 : decode cX4_wear 0 = .ok (.iconst 0, 1) := by decide +kernel
theorem dX4_wear_1 : decode cX4_wear 1 = .ok (.istore_n 2, 1) := by decide +kernel
theorem dX4_wear_2 : decode cX4_wear 2 = .ok (.iconst 0, 1) := by decide +kernel
theorem dX4_wear_3 : decode cX4_wear 3 = .ok (.istore_n 3, 1) := by decide +kernel
theorem dX4_wear_4 : decode cX4_wear 4 = .ok (.iload_n 3, 1) := by decide +kernel
theorem dX4_wear_5 : decode cX4_wear 5 = .ok (.bipush 16, 2) := by decide +kernel
theorem dX4_wear_7 : decode cX4_wear 7 = .ok (.if_icmp .ge 26, 3) := by decide +kernel
theorem dX4_wear_10 : decode cX4_wear 10 = .ok (.iload_n 2, 1) := by decide +kernel
theorem dX4_wear_11 : decode cX4_wear 11 = .ok (.aload_n 0, 1) := by decide +kernel
theorem dX4_wear_12 : decode cX4_wear 12 = .ok (.getfield 7, 3) := by decide +kernel
theorem dX4_wear_15 : decode cX4_wear 15 = .ok (.bipush 20, 2) := by decide +kernel
theorem dX4_wear_17 : decode cX4_wear 17 = .ok (.bipush 16, 2) := by decide +kernel
theorem dX4_wear_19 : decode cX4_wear 19 = .ok (.iload_n 1, 1) := by decide +kernel
theorem dX4_wear_20 : decode cX4_wear 20 = .ok (.imul, 1) := by decide +kernel
theorem dX4_wear_21 : decode cX4_wear 21 = .ok (.iadd, 1) := by decide +kernel
theorem dX4_wear_22 : decode cX4_wear 22 = .ok (.iload_n 3, 1) := by decide +kernel
theorem dX4_wear_23 : decode cX4_wear 23 = .ok (.iadd, 1) := by decide +kernel
theorem dX4_wear_24 : decode cX4_wear 24 = .ok (.iaload, 1) := by decide +kernel
theorem dX4_wear_25 : decode cX4_wear 25 = .ok (.iadd, 1) := by decide +kernel
theorem dX4_wear_26 : decode cX4_wear 26 = .ok (.istore_n 2, 1) := by decide +kernel
theorem dX4_wear_27 : decode cX4_wear 27 = .ok (.iinc 3 1, 3) := by decide +kernel
theorem dX4_wear_30 : decode cX4_wear 30 = .ok (.goto (-26), 3) := by decide +kernel
theorem dX4_wear_33 : decode cX4_wear 33 = .ok (.iload_n 2, 1) := by decide +kernel
theorem dX4_wear_34 : decode cX4_wear 34 = .ok (.ireturn, 1) := by decide +kernel
set_option maxRecDepth 20000 in
theorem ggX4_setHead_X4_isHead : GoodIn wsX4_setHead wsX4_isHead := goodIn_r _ [5, 6, 7, 4, 8] (by decide +kernel) (by decide +kernel)
set_option maxRecDepth 20000 in
theorem gX4_setHead_X4_isHead : GoodIn wsX4_setHead (va_wsS RX4 88 yX4_isHead wsX4_isHead) := goodIn_app (goodIn_of _ (by decide +kernel)) ggX4_setHead_X4_isHead
set_option maxRecDepth 20000 in
theorem ggX4_setHead_X4_in : GoodIn wsX4_setHead wsX4_in := goodIn_r _ [8] (by decide +kernel) (by decide +kernel)
set_option maxRecDepth 20000 in
theorem gX4_setHead_X4_in : GoodIn wsX4_setHead (va_wsS RX4 32 yX4_in wsX4_in) := goodIn_app (goodIn_of _ (by decide +kernel)) ggX4_setHead_X4_in
set_option maxRecDepth 20000 in
theorem ggX4_setHead_X4_wear : GoodIn wsX4_setHead wsX4_wear := goodIn_r _ [12, 1, 19, 20, 21, 22, 23, 24, 25, 26, 27, 28] (by decide +kernel) (by decide +kernel)
set_option maxRecDepth 20000 in
theorem gX4_setHead_X4_wear : GoodIn wsX4_setHead (wsV RX4 91 RX4 yX4_wear wsX4_wear) := goodIn_app (goodIn_of _ (by decide +kernel)) ggX4_setHead_X4_wear
set_option maxRecDepth 20000 in
theorem ggX4_setHead_X4_record : GoodIn wsX4_setHead wsX4_record := goodIn_r _ [16, 17, 18, 19, 20, 21, 22, 23, 24, 25, 26, 27, 28] (by decide +kernel) (by decide +kernel)
set_option maxRecDepth 20000 in
theorem gX4_setHead_X4_record : GoodIn wsX4_setHead (wsV RX4 84 RX4 yX4_record wsX4_record) := goodIn_app (goodIn_of _ (by decide +kernel)) ggX4_setHead_X4_record
theorem dX4_setHead_0 : decode cX4_setHead 0 = .ok (.iload_n 1, 1) := by decide +kernel
theorem dX4_setHead_1 : decode cX4_setHead 1 = .ok (.invokestatic 88, 3) := by decide +kernel
theorem dX4_setHead_4 : decode cX4_setHead 4 = .ok (.ifCond .ne 5, 3) := by decide +kernel
theorem dX4_setHead_7 : decode cX4_setHead 7 = .ok (.iconst (-1), 1) := by decide +kernel
theorem dX4_setHead_8 : decode cX4_setHead 8 = .ok (.ireturn, 1) := by decide +kernel
theorem dX4_setHead_9 : decode cX4_setHead 9 = .ok (.iload_n 3, 1) := by decide +kernel
theorem dX4_setHead_10 : decode cX4_setHead 10 = .ok (.iconst 1, 1) := by decide +kernel
theorem dX4_setHead_11 : decode cX4_setHead 11 = .ok (.iload_n 2, 1) := by decide +kernel
theorem dX4_setHead_12 : decode cX4_setHead 12 = .ok (.ifCond .eq 8, 3) := by decide +kernel
theorem dX4_setHead_15 : decode cX4_setHead 15 = .ok (.bipush 9, 2) := by decide +kernel
theorem dX4_setHead_17 : decode cX4_setHead 17 = .ok (.goto 5, 3) := by decide +kernel
theorem dX4_setHead_20 : decode cX4_setHead 20 = .ok (.bipush 6, 2) := by decide +kernel
theorem dX4_setHead_22 : decode cX4_setHead 22 = .ok (.invokestatic 32, 3) := by decide +kernel
theorem dX4_setHead_25 : decode cX4_setHead 25 = .ok (.ifCond .ne 6, 3) := by decide +kernel
theorem dX4_setHead_28 : decode cX4_setHead 28 = .ok (.bipush (-2), 2) := by decide +kernel
theorem dX4_setHead_30 : decode cX4_setHead 30 = .ok (.ireturn, 1) := by decide +kernel
theorem dX4_setHead_31 : decode cX4_setHead 31 = .ok (.iload_n 2, 1) := by decide +kernel
theorem dX4_setHead_32 : decode cX4_setHead 32 = .ok (.ifCond .ne 27, 3) := by decide +kernel
theorem dX4_setHead_35 : decode cX4_setHead 35 = .ok (.aload_n 0, 1) := by decide +kernel
theorem dX4_setHead_36 : decode cX4_setHead 36 = .ok (.iload_n 1, 1) := by decide +kernel
theorem dX4_setHead_37 : decode cX4_setHead 37 = .ok (.invokevirtual 91, 3) := by decide +kernel
theorem dX4_setHead_40 : decode cX4_setHead 40 = .ok (.ifCond .gt 16, 3) := by decide +kernel
theorem dX4_setHead_43 : decode cX4_setHead 43 = .ok (.aload_n 0, 1) := by decide +kernel
theorem dX4_setHead_44 : decode cX4_setHead 44 = .ok (.getfield 7, 3) := by decide +kernel
theorem dX4_setHead_47 : decode cX4_setHead 47 = .ok (.bipush 16, 2) := by decide +kernel
theorem dX4_setHead_49 : decode cX4_setHead 49 = .ok (.iload_n 1, 1) := by decide +kernel
theorem dX4_setHead_50 : decode cX4_setHead 50 = .ok (.iadd, 1) := by decide +kernel
theorem dX4_setHead_51 : decode cX4_setHead 51 = .ok (.iaload, 1) := by decide +kernel
theorem dX4_setHead_52 : decode cX4_setHead 52 = .ok (.iconst 1, 1) := by decide +kernel
theorem dX4_setHead_53 : decode cX4_setHead 53 = .ok (.if_icmp .ne 6, 3) := by decide +kernel
theorem dX4_setHead_56 : decode cX4_setHead 56 = .ok (.bipush (-4), 2) := by decide +kernel
theorem dX4_setHead_58 : decode cX4_setHead 58 = .ok (.ireturn, 1) := by decide +kernel
theorem dX4_setHead_59 : decode cX4_setHead 59 = .ok (.iload_n 2, 1) := by decide +kernel
theorem dX4_setHead_60 : decode cX4_setHead 60 = .ok (.ifCond .eq 8, 3) := by decide +kernel
theorem dX4_setHead_63 : decode cX4_setHead 63 = .ok (.bipush 8, 2) := by decide +kernel
theorem dX4_setHead_65 : decode cX4_setHead 65 = .ok (.goto 5, 3) := by decide +kernel
theorem dX4_setHead_68 : decode cX4_setHead 68 = .ok (.bipush 12, 2) := by decide +kernel
theorem dX4_setHead_70 : decode cX4_setHead 70 = .ok (.iload_n 1, 1) := by decide +kernel
theorem dX4_setHead_71 : decode cX4_setHead 71 = .ok (.iadd, 1) := by decide +kernel
theorem dX4_setHead_72 : decode cX4_setHead 72 = .ok (.istore 4, 2) := by decide +kernel
theorem dX4_setHead_74 : decode cX4_setHead 74 = .ok (.aload_n 0, 1) := by decide +kernel
theorem dX4_setHead_75 : decode cX4_setHead 75 = .ok (.getfield 7, 3) := by decide +kernel
theorem dX4_setHead_78 : decode cX4_setHead 78 = .ok (.iload 4, 2) := by decide +kernel
theorem dX4_setHead_80 : decode cX4_setHead 80 = .ok (.iaload, 1) := by decide +kernel
theorem dX4_setHead_81 : decode cX4_setHead 81 = .ok (.istore 5, 2) := by decide +kernel
theorem dX4_setHead_83 : decode cX4_setHead 83 = .ok (.iload 5, 2) := by decide +kernel
theorem dX4_setHead_85 : decode cX4_setHead 85 = .ok (.iload_n 3, 1) := by decide +kernel
theorem dX4_setHead_86 : decode cX4_setHead 86 = .ok (.if_icmp .ne 6, 3) := by decide +kernel
theorem dX4_setHead_89 : decode cX4_setHead 89 = .ok (.bipush (-5), 2) := by decide +kernel
theorem dX4_setHead_91 : decode cX4_setHead 91 = .ok (.ireturn, 1) := by decide +kernel
theorem dX4_setHead_92 : decode cX4_setHead 92 = .ok (.aload_n 0, 1) := by decide +kernel
theorem dX4_setHead_93 : decode cX4_setHead 93 = .ok (.aload_n 0, 1) := by decide +kernel
theorem dX4_setHead_94 : decode cX4_setHead 94 = .ok (.getfield 7, 3) := by decide +kernel
theorem dX4_setHead_97 : decode cX4_setHead 97 = .ok (.invokevirtual 84, 3) := by decide +kernel
theorem dX4_setHead_100 : decode cX4_setHead 100 = .ok (.aload_n 0, 1) := by decide +kernel
theorem dX4_setHead_101 : decode cX4_setHead 101 = .ok (.getfield 7, 3) := by decide +kernel
theorem dX4_setHead_104 : decode cX4_setHead 104 = .ok (.iload 4, 2) := by decide +kernel
theorem dX4_setHead_106 : decode cX4_setHead 106 = .ok (.iload_n 3, 1) := by decide +kernel
theorem dX4_setHead_107 : decode cX4_setHead 107 = .ok (.iastore, 1) := by decide +kernel
theorem dX4_setHead_108 : decode cX4_setHead 108 = .ok (.iload 5, 2) := by decide +kernel
theorem dX4_setHead_110 : decode cX4_setHead 110 = .ok (.ireturn, 1) := by decide +kernel
set_option maxRecDepth 20000 in
theorem ggX4_read_X4_copies : GoodIn wsX4_read wsX4_copies := goodIn_r _ [6] (by decide +kernel) (by decide +kernel)
set_option maxRecDepth 20000 in
theorem gX4_read_X4_copies : GoodIn wsX4_read (va_wsS RX4 94 yX4_copies wsX4_copies) := goodIn_app (goodIn_of _ (by decide +kernel)) ggX4_read_X4_copies
set_option maxRecDepth 20000 in
theorem ggX4_read_X4_reads : GoodIn wsX4_read wsX4_reads := goodIn_r _ [10, 1, 11, 12, 13, 5, 14, 15, 16, 17, 18, 19, 20, 21, 22, 23, 24, 25, 26, 27, 28, 29, 30, 31, 32, 33, 34, 35, 36, 37, 38, 39, 40, 41, 42, 43, 44, 45, 46, 47, 48, 49, 50, 51, 52, 53, 54, 55, 56, 57, 58, 59, 60, 61, 62, 63, 64, 65, 66, 67, 68, 69, 76, 77, 78, 79, 80, 81, 82, 83, 84, 85] (by decide +kernel) (by decide +kernel)
set_option maxRecDepth 20000 in
theorem gX4_read_X4_reads : GoodIn wsX4_read (wsV RX4 98 RX4 yX4_reads wsX4_reads) := goodIn_app (goodIn_of _ (by decide +kernel)) ggX4_read_X4_reads
set_option maxRecDepth 20000 in
theorem ggX4_read_X4_record : GoodIn wsX4_read wsX4_record := goodIn_r _ [73, 74, 75, 76, 77, 78, 79, 80, 81, 82, 83, 84, 85] (by decide +kernel) (by decide +kernel)
set_option maxRecDepth 20000 in
theorem gX4_read_X4_record : GoodIn wsX4_read (wsV RX4 84 RX4 yX4_record wsX4_record) := goodIn_app (goodIn_of _ (by decide +kernel)) ggX4_read_X4_record
theorem dX4_read_0 : decode cX4_read 0 = .ok (.aload_n 0, 1) := by decide +kernel
theorem dX4_read_1 : decode cX4_read 1 = .ok (.getfield 7, 3) := by decide +kernel
theorem dX4_read_4 : decode cX4_read 4 = .ok (.aload_n 0, 1) := by decide +kernel
theorem dX4_read_5 : decode cX4_read 5 = .ok (.getfield 13, 3) := by decide +kernel
theorem dX4_read_8 : decode cX4_read 8 = .ok (.invokestatic 94, 3) := by decide +kernel
theorem dX4_read_11 : decode cX4_read 11 = .ok (.aload_n 0, 1) := by decide +kernel
theorem dX4_read_12 : decode cX4_read 12 = .ok (.iload_n 1, 1) := by decide +kernel
theorem dX4_read_13 : decode cX4_read 13 = .ok (.invokevirtual 98, 3) := by decide +kernel
theorem dX4_read_16 : decode cX4_read 16 = .ok (.istore_n 2, 1) := by decide +kernel
theorem dX4_read_17 : decode cX4_read 17 = .ok (.iload_n 2, 1) := by decide +kernel
theorem dX4_read_18 : decode cX4_read 18 = .ok (.ifCond .lt 11, 3) := by decide +kernel
theorem dX4_read_21 : decode cX4_read 21 = .ok (.aload_n 0, 1) := by decide +kernel
theorem dX4_read_22 : decode cX4_read 22 = .ok (.aload_n 0, 1) := by decide +kernel
theorem dX4_read_23 : decode cX4_read 23 = .ok (.getfield 13, 3) := by decide +kernel
theorem dX4_read_26 : decode cX4_read 26 = .ok (.invokevirtual 84, 3) := by decide +kernel
theorem dX4_read_29 : decode cX4_read 29 = .ok (.iload_n 2, 1) := by decide +kernel
theorem dX4_read_30 : decode cX4_read 30 = .ok (.ireturn, 1) := by decide +kernel
set_option maxRecDepth 20000 in
theorem ggX4_write_X4_copies : GoodIn wsX4_write wsX4_copies := goodIn_r _ [6] (by decide +kernel) (by decide +kernel)
set_option maxRecDepth 20000 in
theorem gX4_write_X4_copies : GoodIn wsX4_write (va_wsS RX4 94 yX4_copies wsX4_copies) := goodIn_app (goodIn_of _ (by decide +kernel)) ggX4_write_X4_copies
set_option maxRecDepth 20000 in
theorem ggX4_write_X4_writes : GoodIn wsX4_write wsX4_writes := goodIn_r _ [10, 1, 11, 12, 13, 5, 14, 15, 16, 17, 18, 19, 20, 21, 22, 23, 24, 25, 26, 27, 28, 29, 30, 31, 32, 33, 34, 35, 36, 37, 38, 39, 40, 41, 42, 43, 44, 45, 46, 47, 48, 49, 50, 51, 52, 53, 54, 55, 56, 57, 58, 59, 60, 61, 62, 63, 64, 65, 66, 67, 68, 69, 76, 77, 78, 79, 80, 81, 82, 83, 84, 85] (by decide +kernel) (by decide +kernel)
set_option maxRecDepth 20000 in
theorem gX4_write_X4_writes : GoodIn wsX4_write (wsV RX4 101 RX4 yX4_writes wsX4_writes) := goodIn_app (goodIn_of _ (by decide +kernel)) ggX4_write_X4_writes
set_option maxRecDepth 20000 in
theorem ggX4_write_X4_record : GoodIn wsX4_write wsX4_record := goodIn_r _ [73, 74, 75, 76, 77, 78, 79, 80, 81, 82, 83, 84, 85] (by decide +kernel) (by decide +kernel)
set_option maxRecDepth 20000 in
theorem gX4_write_X4_record : GoodIn wsX4_write (wsV RX4 84 RX4 yX4_record wsX4_record) := goodIn_app (goodIn_of _ (by decide +kernel)) ggX4_write_X4_record
theorem dX4_write_0 : decode cX4_write 0 = .ok (.aload_n 0, 1) := by decide +kernel
theorem dX4_write_1 : decode cX4_write 1 = .ok (.getfield 7, 3) := by decide +kernel
theorem dX4_write_4 : decode cX4_write 4 = .ok (.aload_n 0, 1) := by decide +kernel
theorem dX4_write_5 : decode cX4_write 5 = .ok (.getfield 13, 3) := by decide +kernel
theorem dX4_write_8 : decode cX4_write 8 = .ok (.invokestatic 94, 3) := by decide +kernel
theorem dX4_write_11 : decode cX4_write 11 = .ok (.aload_n 0, 1) := by decide +kernel
theorem dX4_write_12 : decode cX4_write 12 = .ok (.iload_n 1, 1) := by decide +kernel
theorem dX4_write_13 : decode cX4_write 13 = .ok (.iload_n 2, 1) := by decide +kernel
theorem dX4_write_14 : decode cX4_write 14 = .ok (.invokevirtual 101, 3) := by decide +kernel
theorem dX4_write_17 : decode cX4_write 17 = .ok (.istore_n 3, 1) := by decide +kernel
theorem dX4_write_18 : decode cX4_write 18 = .ok (.iload_n 3, 1) := by decide +kernel
theorem dX4_write_19 : decode cX4_write 19 = .ok (.ifCond .lt 11, 3) := by decide +kernel
theorem dX4_write_22 : decode cX4_write 22 = .ok (.aload_n 0, 1) := by decide +kernel
theorem dX4_write_23 : decode cX4_write 23 = .ok (.aload_n 0, 1) := by decide +kernel
theorem dX4_write_24 : decode cX4_write 24 = .ok (.getfield 13, 3) := by decide +kernel
theorem dX4_write_27 : decode cX4_write 27 = .ok (.invokevirtual 84, 3) := by decide +kernel
theorem dX4_write_30 : decode cX4_write 30 = .ok (.iload_n 3, 1) := by decide +kernel
theorem dX4_write_31 : decode cX4_write 31 = .ok (.ireturn, 1) := by decide +kernel
set_option maxRecDepth 20000 in
theorem ggX4_copiesOne_X4_copies : GoodIn wsX4_copiesOne wsX4_copies := goodIn_r _ [6] (by decide +kernel) (by decide +kernel)
set_option maxRecDepth 20000 in
theorem gX4_copiesOne_X4_copies : GoodIn wsX4_copiesOne (va_wsS RX4 94 yX4_copies wsX4_copies) := goodIn_app (goodIn_of _ (by decide +kernel)) ggX4_copiesOne_X4_copies
set_option maxRecDepth 20000 in
theorem ggX4_copiesOne_X4_reads : GoodIn wsX4_copiesOne wsX4_reads := goodIn_r _ [10, 1, 11, 12, 13, 5, 14, 15, 16, 17, 18, 19, 20, 21, 22, 23, 24, 25, 26, 27, 28, 29, 30, 31, 32, 33, 34, 35, 36, 37, 38, 39, 40, 41, 42, 43, 44, 45, 46, 47, 48, 49, 50, 51, 52, 53, 54, 55, 56, 57, 58, 59, 60, 61, 62, 63, 64, 65, 66, 67, 68, 69, 74, 75, 76, 77, 78, 79, 80, 81, 82, 83] (by decide +kernel) (by decide +kernel)
set_option maxRecDepth 20000 in
theorem gX4_copiesOne_X4_reads : GoodIn wsX4_copiesOne (wsV RX4 98 RX4 yX4_reads wsX4_reads) := goodIn_app (goodIn_of _ (by decide +kernel)) ggX4_copiesOne_X4_reads
set_option maxRecDepth 20000 in
theorem ggX4_copiesOne_X4_writes : GoodIn wsX4_copiesOne wsX4_writes := goodIn_r _ [73, 1, 11, 12, 13, 5, 14, 15, 16, 17, 18, 19, 20, 21, 22, 23, 24, 25, 50, 51, 52, 53, 54, 55, 56, 57, 58, 59, 60, 61, 46, 47, 48, 49, 62, 63, 64, 65, 66, 67, 68, 69, 26, 27, 28, 29, 30, 31, 32, 33, 34, 35, 36, 37, 38, 39, 40, 41, 42, 43, 44, 45, 74, 75, 76, 77, 78, 79, 80, 81, 82, 83] (by decide +kernel) (by decide +kernel)
set_option maxRecDepth 20000 in
theorem gX4_copiesOne_X4_writes : GoodIn wsX4_copiesOne (wsV RX4 101 RX4 yX4_writes wsX4_writes) := goodIn_app (goodIn_of _ (by decide +kernel)) ggX4_copiesOne_X4_writes
theorem dX4_copiesOne_0 : decode cX4_copiesOne 0 = .ok (.aload_n 0, 1) := by decide +kernel
theorem dX4_copiesOne_1 : decode cX4_copiesOne 1 = .ok (.getfield 7, 3) := by decide +kernel
theorem dX4_copiesOne_4 : decode cX4_copiesOne 4 = .ok (.aload_n 0, 1) := by decide +kernel
theorem dX4_copiesOne_5 : decode cX4_copiesOne 5 = .ok (.getfield 16, 3) := by decide +kernel
theorem dX4_copiesOne_8 : decode cX4_copiesOne 8 = .ok (.invokestatic 94, 3) := by decide +kernel
theorem dX4_copiesOne_11 : decode cX4_copiesOne 11 = .ok (.aload_n 0, 1) := by decide +kernel
theorem dX4_copiesOne_12 : decode cX4_copiesOne 12 = .ok (.iload_n 1, 1) := by decide +kernel
theorem dX4_copiesOne_13 : decode cX4_copiesOne 13 = .ok (.invokevirtual 98, 3) := by decide +kernel
theorem dX4_copiesOne_16 : decode cX4_copiesOne 16 = .ok (.istore_n 3, 1) := by decide +kernel
theorem dX4_copiesOne_17 : decode cX4_copiesOne 17 = .ok (.iload_n 3, 1) := by decide +kernel
theorem dX4_copiesOne_18 : decode cX4_copiesOne 18 = .ok (.ifCond .lt 14, 3) := by decide +kernel
theorem dX4_copiesOne_21 : decode cX4_copiesOne 21 = .ok (.aload_n 0, 1) := by decide +kernel
theorem dX4_copiesOne_22 : decode cX4_copiesOne 22 = .ok (.iload_n 2, 1) := by decide +kernel
theorem dX4_copiesOne_23 : decode cX4_copiesOne 23 = .ok (.iload_n 3, 1) := by decide +kernel
theorem dX4_copiesOne_24 : decode cX4_copiesOne 24 = .ok (.invokevirtual 101, 3) := by decide +kernel
theorem dX4_copiesOne_27 : decode cX4_copiesOne 27 = .ok (.ifCond .lt 5, 3) := by decide +kernel
theorem dX4_copiesOne_30 : decode cX4_copiesOne 30 = .ok (.iconst 1, 1) := by decide +kernel
theorem dX4_copiesOne_31 : decode cX4_copiesOne 31 = .ok (.ireturn, 1) := by decide +kernel
theorem dX4_copiesOne_32 : decode cX4_copiesOne 32 = .ok (.aload_n 0, 1) := by decide +kernel
theorem dX4_copiesOne_33 : decode cX4_copiesOne 33 = .ok (.getfield 16, 3) := by decide +kernel
theorem dX4_copiesOne_36 : decode cX4_copiesOne 36 = .ok (.aload_n 0, 1) := by decide +kernel
theorem dX4_copiesOne_37 : decode cX4_copiesOne 37 = .ok (.getfield 7, 3) := by decide +kernel
theorem dX4_copiesOne_40 : decode cX4_copiesOne 40 = .ok (.invokestatic 94, 3) := by decide +kernel
theorem dX4_copiesOne_43 : decode cX4_copiesOne 43 = .ok (.iconst 0, 1) := by decide +kernel
theorem dX4_copiesOne_44 : decode cX4_copiesOne 44 = .ok (.ireturn, 1) := by decide +kernel
set_option maxRecDepth 20000 in
theorem ggX4_copy_X4_isAddress : GoodIn wsX4_copy wsX4_isAddress := goodIn_r _ [7, 8, 9, 6, 10, 11, 12, 13, 14, 1, 85, 86, 87, 88, 89, 90, 91, 92, 93, 94] (by decide +kernel) (by decide +kernel)
set_option maxRecDepth 20000 in
theorem gX4_copy_X4_isAddress : GoodIn wsX4_copy (wsV RX4 40 RX4 yX4_isAddress wsX4_isAddress) := goodIn_app (goodIn_of _ (by decide +kernel)) ggX4_copy_X4_isAddress
set_option maxRecDepth 20000 in
theorem ggX4_copy_X4_in : GoodIn wsX4_copy wsX4_in := goodIn_r _ [10] (by decide +kernel) (by decide +kernel)
set_option maxRecDepth 20000 in
theorem gX4_copy_X4_in : GoodIn wsX4_copy (va_wsS RX4 32 yX4_in wsX4_in) := goodIn_app (goodIn_of _ (by decide +kernel)) ggX4_copy_X4_in
set_option maxRecDepth 20000 in
theorem ggX4_copy_X4_copies : GoodIn wsX4_copy wsX4_copies := goodIn_r _ [17] (by decide +kernel) (by decide +kernel)
set_option maxRecDepth 20000 in
theorem gX4_copy_X4_copies : GoodIn wsX4_copy (va_wsS RX4 94 yX4_copies wsX4_copies) := goodIn_app (goodIn_of _ (by decide +kernel)) ggX4_copy_X4_copies
set_option maxRecDepth 20000 in
theorem ggX4_copy_X4_copiesOne : GoodIn wsX4_copy wsX4_copiesOne := goodIn_r _ [21, 1, 22, 15, 16, 6, 17, 23, 24, 25, 26, 3, 4, 5, 7, 8, 9, 10, 11, 12, 13, 14, 27, 28, 29, 30, 31, 32, 33, 34, 35, 36, 37, 38, 39, 40, 41, 42, 43, 44, 45, 46, 47, 48, 49, 50, 51, 52, 53, 54, 55, 56, 57, 58, 59, 60, 61, 62, 63, 64, 65, 66, 67, 68, 69, 70, 71, 72, 73, 74, 75, 76, 77, 78, 85, 86, 87, 88, 89, 90, 91, 92, 93, 94] (by decide +kernel) (by decide +kernel)
set_option maxRecDepth 20000 in
theorem gX4_copy_X4_copiesOne : GoodIn wsX4_copy (wsV RX4 105 RX4 yX4_copiesOne wsX4_copiesOne) := goodIn_app (goodIn_of _ (by decide +kernel)) ggX4_copy_X4_copiesOne
set_option maxRecDepth 20000 in
theorem ggX4_copy_X4_record : GoodIn wsX4_copy wsX4_record := goodIn_r _ [82, 83, 84, 85, 86, 87, 88, 89, 90, 91, 92, 93, 94] (by decide +kernel) (by decide +kernel)
set_option maxRecDepth 20000 in
theorem gX4_copy_X4_record : GoodIn wsX4_copy (wsV RX4 84 RX4 yX4_record wsX4_record) := goodIn_app (goodIn_of _ (by decide +kernel)) ggX4_copy_X4_record
theorem dX4_copy_0 : decode cX4_copy 0 = .ok (.aload_n 0, 1) := by decide +kernel
theorem dX4_copy_1 : decode cX4_copy 1 = .ok (.iload_n 1, 1) := by decide +kernel
theorem dX4_copy_2 : decode cX4_copy 2 = .ok (.invokevirtual 40, 3) := by decide +kernel
theorem dX4_copy_5 : decode cX4_copy 5 = .ok (.ifCond .eq 11, 3) := by decide +kernel
theorem dX4_copy_8 : decode cX4_copy 8 = .ok (.aload_n 0, 1) := by decide +kernel
theorem dX4_copy_9 : decode cX4_copy 9 = .ok (.iload_n 2, 1) := by decide +kernel
theorem dX4_copy_10 : decode cX4_copy 10 = .ok (.invokevirtual 40, 3) := by decide +kernel
theorem dX4_copy_13 : decode cX4_copy 13 = .ok (.ifCond .ne 5, 3) := by decide +kernel
theorem dX4_copy_16 : decode cX4_copy 16 = .ok (.iconst (-1), 1) := by decide +kernel
theorem dX4_copy_17 : decode cX4_copy 17 = .ok (.ireturn, 1) := by decide +kernel
theorem dX4_copy_18 : decode cX4_copy 18 = .ok (.iload_n 3, 1) := by decide +kernel
theorem dX4_copy_19 : decode cX4_copy 19 = .ok (.iconst 1, 1) := by decide +kernel
theorem dX4_copy_20 : decode cX4_copy 20 = .ok (.bipush 16, 2) := by decide +kernel
theorem dX4_copy_22 : decode cX4_copy 22 = .ok (.invokestatic 32, 3) := by decide +kernel
theorem dX4_copy_25 : decode cX4_copy 25 = .ok (.ifCond .ne 6, 3) := by decide +kernel
theorem dX4_copy_28 : decode cX4_copy 28 = .ok (.bipush (-2), 2) := by decide +kernel
theorem dX4_copy_30 : decode cX4_copy 30 = .ok (.ireturn, 1) := by decide +kernel
theorem dX4_copy_31 : decode cX4_copy 31 = .ok (.aload_n 0, 1) := by decide +kernel
theorem dX4_copy_32 : decode cX4_copy 32 = .ok (.getfield 7, 3) := by decide +kernel
theorem dX4_copy_35 : decode cX4_copy 35 = .ok (.aload_n 0, 1) := by decide +kernel
theorem dX4_copy_36 : decode cX4_copy 36 = .ok (.getfield 13, 3) := by decide +kernel
theorem dX4_copy_39 : decode cX4_copy 39 = .ok (.invokestatic 94, 3) := by decide +kernel
theorem dX4_copy_42 : decode cX4_copy 42 = .ok (.iconst 0, 1) := by decide +kernel
theorem dX4_copy_43 : decode cX4_copy 43 = .ok (.istore 4, 2) := by decide +kernel
theorem dX4_copy_45 : decode cX4_copy 45 = .ok (.iload 4, 2) := by decide +kernel
theorem dX4_copy_47 : decode cX4_copy 47 = .ok (.iload_n 3, 1) := by decide +kernel
theorem dX4_copy_48 : decode cX4_copy 48 = .ok (.if_icmp .ge 24, 3) := by decide +kernel
theorem dX4_copy_51 : decode cX4_copy 51 = .ok (.aload_n 0, 1) := by decide +kernel
theorem dX4_copy_52 : decode cX4_copy 52 = .ok (.iload_n 1, 1) := by decide +kernel
theorem dX4_copy_53 : decode cX4_copy 53 = .ok (.iload 4, 2) := by decide +kernel
theorem dX4_copy_55 : decode cX4_copy 55 = .ok (.iadd, 1) := by decide +kernel
theorem dX4_copy_56 : decode cX4_copy 56 = .ok (.iload_n 2, 1) := by decide +kernel
theorem dX4_copy_57 : decode cX4_copy 57 = .ok (.iload 4, 2) := by decide +kernel
theorem dX4_copy_59 : decode cX4_copy 59 = .ok (.iadd, 1) := by decide +kernel
theorem dX4_copy_60 : decode cX4_copy 60 = .ok (.invokevirtual 105, 3) := by decide +kernel
theorem dX4_copy_63 : decode cX4_copy 63 = .ok (.ifCond .eq 9, 3) := by decide +kernel
theorem dX4_copy_66 : decode cX4_copy 66 = .ok (.iinc 4 1, 3) := by decide +kernel
theorem dX4_copy_69 : decode cX4_copy 69 = .ok (.goto (-24), 3) := by decide +kernel
theorem dX4_copy_72 : decode cX4_copy 72 = .ok (.iload 4, 2) := by decide +kernel
theorem dX4_copy_74 : decode cX4_copy 74 = .ok (.ifCond .ne 6, 3) := by decide +kernel
theorem dX4_copy_77 : decode cX4_copy 77 = .ok (.bipush (-5), 2) := by decide +kernel
theorem dX4_copy_79 : decode cX4_copy 79 = .ok (.ireturn, 1) := by decide +kernel
theorem dX4_copy_80 : decode cX4_copy 80 = .ok (.aload_n 0, 1) := by decide +kernel
theorem dX4_copy_81 : decode cX4_copy 81 = .ok (.aload_n 0, 1) := by decide +kernel
theorem dX4_copy_82 : decode cX4_copy 82 = .ok (.getfield 13, 3) := by decide +kernel
theorem dX4_copy_85 : decode cX4_copy 85 = .ok (.invokevirtual 84, 3) := by decide +kernel
theorem dX4_copy_88 : decode cX4_copy 88 = .ok (.iload 4, 2) := by decide +kernel
theorem dX4_copy_90 : decode cX4_copy 90 = .ok (.ireturn, 1) := by decide +kernel
set_option maxRecDepth 20000 in
theorem ggX4_lost_X4_isAddress : GoodIn wsX4_lost wsX4_isAddress := goodIn_r _ [5, 6, 7, 4, 8, 9, 10, 11, 12, 13, 18, 19, 20, 21, 22, 23, 24, 25, 26, 27] (by decide +kernel) (by decide +kernel)
set_option maxRecDepth 20000 in
theorem gX4_lost_X4_isAddress : GoodIn wsX4_lost (wsV RX4 40 RX4 yX4_isAddress wsX4_isAddress) := goodIn_app (goodIn_of _ (by decide +kernel)) ggX4_lost_X4_isAddress
set_option maxRecDepth 20000 in
theorem ggX4_lost_X4_isLost : GoodIn wsX4_lost wsX4_isLost := goodIn_r _ [17, 13, 18, 19, 20, 21, 22, 23, 24, 25, 26, 27] (by decide +kernel) (by decide +kernel)
set_option maxRecDepth 20000 in
theorem gX4_lost_X4_isLost : GoodIn wsX4_lost (wsV RX4 75 RX4 yX4_isLost wsX4_isLost) := goodIn_app (goodIn_of _ (by decide +kernel)) ggX4_lost_X4_isLost
theorem dX4_lost_0 : decode cX4_lost 0 = .ok (.iconst 0, 1) := by decide +kernel
theorem dX4_lost_1 : decode cX4_lost 1 = .ok (.istore_n 2, 1) := by decide +kernel
theorem dX4_lost_2 : decode cX4_lost 2 = .ok (.iconst 0, 1) := by decide +kernel
theorem dX4_lost_3 : decode cX4_lost 3 = .ok (.istore_n 3, 1) := by decide +kernel
theorem dX4_lost_4 : decode cX4_lost 4 = .ok (.iload_n 3, 1) := by decide +kernel
theorem dX4_lost_5 : decode cX4_lost 5 = .ok (.bipush 16, 2) := by decide +kernel
theorem dX4_lost_7 : decode cX4_lost 7 = .ok (.if_icmp .ge 43, 3) := by decide +kernel
theorem dX4_lost_10 : decode cX4_lost 10 = .ok (.bipush 16, 2) := by decide +kernel
theorem dX4_lost_12 : decode cX4_lost 12 = .ok (.iload_n 1, 1) := by decide +kernel
theorem dX4_lost_13 : decode cX4_lost 13 = .ok (.imul, 1) := by decide +kernel
theorem dX4_lost_14 : decode cX4_lost 14 = .ok (.iload_n 3, 1) := by decide +kernel
theorem dX4_lost_15 : decode cX4_lost 15 = .ok (.iadd, 1) := by decide +kernel
theorem dX4_lost_16 : decode cX4_lost 16 = .ok (.istore 4, 2) := by decide +kernel
theorem dX4_lost_18 : decode cX4_lost 18 = .ok (.iload_n 2, 1) := by decide +kernel
theorem dX4_lost_19 : decode cX4_lost 19 = .ok (.aload_n 0, 1) := by decide +kernel
theorem dX4_lost_20 : decode cX4_lost 20 = .ok (.iload 4, 2) := by decide +kernel
theorem dX4_lost_22 : decode cX4_lost 22 = .ok (.invokevirtual 40, 3) := by decide +kernel
theorem dX4_lost_25 : decode cX4_lost 25 = .ok (.ifCond .eq 16, 3) := by decide +kernel
theorem dX4_lost_28 : decode cX4_lost 28 = .ok (.aload_n 0, 1) := by decide +kernel
theorem dX4_lost_29 : decode cX4_lost 29 = .ok (.iload 4, 2) := by decide +kernel
theorem dX4_lost_31 : decode cX4_lost 31 = .ok (.invokevirtual 75, 3) := by decide +kernel
theorem dX4_lost_34 : decode cX4_lost 34 = .ok (.ifCond .eq 7, 3) := by decide +kernel
theorem dX4_lost_37 : decode cX4_lost 37 = .ok (.iconst 1, 1) := by decide +kernel
theorem dX4_lost_38 : decode cX4_lost 38 = .ok (.goto 4, 3) := by decide +kernel
theorem dX4_lost_41 : decode cX4_lost 41 = .ok (.iconst 0, 1) := by decide +kernel
theorem dX4_lost_42 : decode cX4_lost 42 = .ok (.iadd, 1) := by decide +kernel
theorem dX4_lost_43 : decode cX4_lost 43 = .ok (.istore_n 2, 1) := by decide +kernel
theorem dX4_lost_44 : decode cX4_lost 44 = .ok (.iinc 3 1, 3) := by decide +kernel
theorem dX4_lost_47 : decode cX4_lost 47 = .ok (.goto (-43), 3) := by decide +kernel
theorem dX4_lost_50 : decode cX4_lost 50 = .ok (.iload_n 2, 1) := by decide +kernel
theorem dX4_lost_51 : decode cX4_lost 51 = .ok (.ireturn, 1) := by decide +kernel
set_option maxRecDepth 20000 in
theorem ggX4_test_X4_isHead : GoodIn wsX4_test wsX4_isHead := goodIn_r _ [5, 6, 7, 4, 8] (by decide +kernel) (by decide +kernel)
set_option maxRecDepth 20000 in
theorem gX4_test_X4_isHead : GoodIn wsX4_test (va_wsS RX4 88 yX4_isHead wsX4_isHead) := goodIn_app (goodIn_of _ (by decide +kernel)) ggX4_test_X4_isHead
set_option maxRecDepth 20000 in
theorem ggX4_test_X4_lost : GoodIn wsX4_test wsX4_lost := goodIn_r _ [12, 13, 14, 15, 4, 16, 6, 7, 8, 17, 18, 19, 20, 1, 21, 22, 23, 24, 79, 80, 81, 82, 83, 84, 85, 86, 87, 88] (by decide +kernel) (by decide +kernel)
set_option maxRecDepth 20000 in
theorem gX4_test_X4_lost : GoodIn wsX4_test (wsV RX4 109 RX4 yX4_lost wsX4_lost) := goodIn_app (goodIn_of _ (by decide +kernel)) ggX4_test_X4_lost
set_option maxRecDepth 20000 in
theorem ggX4_test_X4_record : GoodIn wsX4_test wsX4_record := goodIn_r _ [28, 29, 30, 79, 80, 81, 82, 83, 84, 85, 86, 87, 88] (by decide +kernel) (by decide +kernel)
set_option maxRecDepth 20000 in
theorem gX4_test_X4_record : GoodIn wsX4_test (wsV RX4 84 RX4 yX4_record wsX4_record) := goodIn_app (goodIn_of _ (by decide +kernel)) ggX4_test_X4_record
set_option maxRecDepth 20000 in
theorem ggX4_test_X4_reads : GoodIn wsX4_test wsX4_reads := goodIn_r _ [34, 1, 13, 14, 15, 4, 16, 6, 7, 8, 17, 18, 19, 20, 21, 22, 23, 24, 35, 36, 37, 38, 39, 40, 41, 42, 43, 44, 45, 46, 47, 48, 49, 50, 51, 52, 53, 54, 55, 56, 57, 58, 59, 60, 61, 62, 63, 64, 65, 66, 67, 68, 69, 70, 71, 72, 73, 74, 75, 76, 77, 78, 79, 80, 81, 82, 83, 84, 85, 86, 87, 88] (by decide +kernel) (by decide +kernel)
set_option maxRecDepth 20000 in
theorem gX4_test_X4_reads : GoodIn wsX4_test (wsV RX4 98 RX4 yX4_reads wsX4_reads) := goodIn_app (goodIn_of _ (by decide +kernel)) ggX4_test_X4_reads
theorem dX4_test_0 : decode cX4_test 0 = .ok (.iload_n 1, 1) := by decide +kernel
theorem dX4_test_1 : decode cX4_test 1 = .ok (.invokestatic 88, 3) := by decide +kernel
theorem dX4_test_4 : decode cX4_test 4 = .ok (.ifCond .ne 5, 3) := by decide +kernel
theorem dX4_test_7 : decode cX4_test 7 = .ok (.iconst (-1), 1) := by decide +kernel
theorem dX4_test_8 : decode cX4_test 8 = .ok (.ireturn, 1) := by decide +kernel
theorem dX4_test_9 : decode cX4_test 9 = .ok (.aload_n 0, 1) := by decide +kernel
theorem dX4_test_10 : decode cX4_test 10 = .ok (.iload_n 1, 1) := by decide +kernel
theorem dX4_test_11 : decode cX4_test 11 = .ok (.invokevirtual 109, 3) := by decide +kernel
theorem dX4_test_14 : decode cX4_test 14 = .ok (.bipush 16, 2) := by decide +kernel
theorem dX4_test_16 : decode cX4_test 16 = .ok (.aload_n 0, 1) := by decide +kernel
theorem dX4_test_17 : decode cX4_test 17 = .ok (.getfield 7, 3) := by decide +kernel
theorem dX4_test_20 : decode cX4_test 20 = .ok (.bipush 12, 2) := by decide +kernel
theorem dX4_test_22 : decode cX4_test 22 = .ok (.iload_n 1, 1) := by decide +kernel
theorem dX4_test_23 : decode cX4_test 23 = .ok (.iadd, 1) := by decide +kernel
theorem dX4_test_24 : decode cX4_test 24 = .ok (.iaload, 1) := by decide +kernel
theorem dX4_test_25 : decode cX4_test 25 = .ok (.isub, 1) := by decide +kernel
theorem dX4_test_26 : decode cX4_test 26 = .ok (.if_icmp .ne 6, 3) := by decide +kernel
theorem dX4_test_29 : decode cX4_test 29 = .ok (.bipush (-5), 2) := by decide +kernel
theorem dX4_test_31 : decode cX4_test 31 = .ok (.ireturn, 1) := by decide +kernel
theorem dX4_test_32 : decode cX4_test 32 = .ok (.aload_n 0, 1) := by decide +kernel
theorem dX4_test_33 : decode cX4_test 33 = .ok (.aload_n 0, 1) := by decide +kernel
theorem dX4_test_34 : decode cX4_test 34 = .ok (.getfield 7, 3) := by decide +kernel
theorem dX4_test_37 : decode cX4_test 37 = .ok (.invokevirtual 84, 3) := by decide +kernel
theorem dX4_test_40 : decode cX4_test 40 = .ok (.aload_n 0, 1) := by decide +kernel
theorem dX4_test_41 : decode cX4_test 41 = .ok (.getfield 7, 3) := by decide +kernel
theorem dX4_test_44 : decode cX4_test 44 = .ok (.iconst 4, 1) := by decide +kernel
theorem dX4_test_45 : decode cX4_test 45 = .ok (.iaload, 1) := by decide +kernel
theorem dX4_test_46 : decode cX4_test 46 = .ok (.istore_n 2, 1) := by decide +kernel
theorem dX4_test_47 : decode cX4_test 47 = .ok (.iconst 0, 1) := by decide +kernel
theorem dX4_test_48 : decode cX4_test 48 = .ok (.istore_n 3, 1) := by decide +kernel
theorem dX4_test_49 : decode cX4_test 49 = .ok (.iload_n 3, 1) := by decide +kernel
theorem dX4_test_50 : decode cX4_test 50 = .ok (.bipush 16, 2) := by decide +kernel
theorem dX4_test_52 : decode cX4_test 52 = .ok (.if_icmp .ge 21, 3) := by decide +kernel
theorem dX4_test_55 : decode cX4_test 55 = .ok (.aload_n 0, 1) := by decide +kernel
theorem dX4_test_56 : decode cX4_test 56 = .ok (.bipush 16, 2) := by decide +kernel
theorem dX4_test_58 : decode cX4_test 58 = .ok (.iload_n 1, 1) := by decide +kernel
theorem dX4_test_59 : decode cX4_test 59 = .ok (.imul, 1) := by decide +kernel
theorem dX4_test_60 : decode cX4_test 60 = .ok (.iload_n 3, 1) := by decide +kernel
theorem dX4_test_61 : decode cX4_test 61 = .ok (.iadd, 1) := by decide +kernel
theorem dX4_test_62 : decode cX4_test 62 = .ok (.invokevirtual 98, 3) := by decide +kernel
theorem dX4_test_65 : decode cX4_test 65 = .ok (.istore 4, 2) := by decide +kernel
theorem dX4_test_67 : decode cX4_test 67 = .ok (.iinc 3 1, 3) := by decide +kernel
theorem dX4_test_70 : decode cX4_test 70 = .ok (.goto (-21), 3) := by decide +kernel
theorem dX4_test_73 : decode cX4_test 73 = .ok (.aload_n 0, 1) := by decide +kernel
theorem dX4_test_74 : decode cX4_test 74 = .ok (.getfield 7, 3) := by decide +kernel
theorem dX4_test_77 : decode cX4_test 77 = .ok (.iconst 4, 1) := by decide +kernel
theorem dX4_test_78 : decode cX4_test 78 = .ok (.iaload, 1) := by decide +kernel
theorem dX4_test_79 : decode cX4_test 79 = .ok (.iload_n 2, 1) := by decide +kernel
theorem dX4_test_80 : decode cX4_test 80 = .ok (.isub, 1) := by decide +kernel
theorem dX4_test_81 : decode cX4_test 81 = .ok (.ireturn, 1) := by decide +kernel
set_option maxRecDepth 20000 in
theorem ggX4_giveBack_X4_isAddress : GoodIn wsX4_giveBack wsX4_isAddress := goodIn_r _ [6, 7, 8, 5, 9, 10, 11, 12, 13, 1, 40, 41, 42, 43, 44, 45, 46, 47, 48, 49] (by decide +kernel) (by decide +kernel)
set_option maxRecDepth 20000 in
theorem gX4_giveBack_X4_isAddress : GoodIn wsX4_giveBack (wsV RX4 40 RX4 yX4_isAddress wsX4_isAddress) := goodIn_app (goodIn_of _ (by decide +kernel)) ggX4_giveBack_X4_isAddress
set_option maxRecDepth 20000 in
theorem ggX4_giveBack_X4_state : GoodIn wsX4_giveBack wsX4_state := goodIn_r _ [17, 1, 40, 41, 42, 43, 44, 45, 46, 47, 48, 49] (by decide +kernel) (by decide +kernel)
set_option maxRecDepth 20000 in
theorem gX4_giveBack_X4_state : GoodIn wsX4_giveBack (wsV RX4 43 RX4 yX4_state wsX4_state) := goodIn_app (goodIn_of _ (by decide +kernel)) ggX4_giveBack_X4_state
set_option maxRecDepth 20000 in
theorem ggX4_giveBack_X4_record : GoodIn wsX4_giveBack wsX4_record := goodIn_r _ [21, 22, 23, 40, 41, 42, 43, 44, 45, 46, 47, 48, 49] (by decide +kernel) (by decide +kernel)
set_option maxRecDepth 20000 in
theorem gX4_giveBack_X4_record : GoodIn wsX4_giveBack (wsV RX4 84 RX4 yX4_record wsX4_record) := goodIn_app (goodIn_of _ (by decide +kernel)) ggX4_giveBack_X4_record
set_option maxRecDepth 20000 in
theorem ggX4_giveBack_X4_goesTo : GoodIn wsX4_giveBack wsX4_goesTo := goodIn_r _ [27, 1, 28, 29, 30, 5, 31, 32, 33, 34, 40, 41, 42, 43, 44, 45, 46, 47, 48, 49] (by decide +kernel) (by decide +kernel)
set_option maxRecDepth 20000 in
theorem gX4_giveBack_X4_goesTo : GoodIn wsX4_giveBack (wsV RX4 78 RX4 yX4_goesTo wsX4_goesTo) := goodIn_app (goodIn_of _ (by decide +kernel)) ggX4_giveBack_X4_goesTo
set_option maxRecDepth 20000 in
theorem ggX4_giveBack_X4_goes : GoodIn wsX4_giveBack wsX4_goes := goodIn_r _ [31, 1, 32, 33, 5, 34, 40, 41, 42, 43, 44, 45, 46, 47, 48, 49] (by decide +kernel) (by decide +kernel)
set_option maxRecDepth 20000 in
theorem gX4_giveBack_X4_goes : GoodIn wsX4_giveBack (wsV RX4 64 RX4 yX4_goes wsX4_goes) := goodIn_app (goodIn_of _ (by decide +kernel)) ggX4_giveBack_X4_goes
set_option maxRecDepth 20000 in
theorem ggX4_giveBack_X4_wears : GoodIn wsX4_giveBack wsX4_wears := goodIn_r _ [38, 1, 39, 40, 41, 42, 43, 44, 45, 46, 47, 48, 49] (by decide +kernel) (by decide +kernel)
set_option maxRecDepth 20000 in
theorem gX4_giveBack_X4_wears : GoodIn wsX4_giveBack (wsV RX4 71 RX4 yX4_wears wsX4_wears) := goodIn_app (goodIn_of _ (by decide +kernel)) ggX4_giveBack_X4_wears
theorem dX4_giveBack_0 : decode cX4_giveBack 0 = .ok (.aload_n 0, 1) := by decide +kernel
theorem dX4_giveBack_1 : decode cX4_giveBack 1 = .ok (.iload_n 1, 1) := by decide +kernel
theorem dX4_giveBack_2 : decode cX4_giveBack 2 = .ok (.invokevirtual 40, 3) := by decide +kernel
theorem dX4_giveBack_5 : decode cX4_giveBack 5 = .ok (.ifCond .ne 5, 3) := by decide +kernel
theorem dX4_giveBack_8 : decode cX4_giveBack 8 = .ok (.iconst (-1), 1) := by decide +kernel
theorem dX4_giveBack_9 : decode cX4_giveBack 9 = .ok (.ireturn, 1) := by decide +kernel
theorem dX4_giveBack_10 : decode cX4_giveBack 10 = .ok (.aload_n 0, 1) := by decide +kernel
theorem dX4_giveBack_11 : decode cX4_giveBack 11 = .ok (.getfield 7, 3) := by decide +kernel
theorem dX4_giveBack_14 : decode cX4_giveBack 14 = .ok (.sipush 148, 3) := by decide +kernel
theorem dX4_giveBack_17 : decode cX4_giveBack 17 = .ok (.iload_n 1, 1) := by decide +kernel
theorem dX4_giveBack_18 : decode cX4_giveBack 18 = .ok (.iadd, 1) := by decide +kernel
theorem dX4_giveBack_19 : decode cX4_giveBack 19 = .ok (.iaload, 1) := by decide +kernel
theorem dX4_giveBack_20 : decode cX4_giveBack 20 = .ok (.istore_n 2, 1) := by decide +kernel
theorem dX4_giveBack_21 : decode cX4_giveBack 21 = .ok (.iload_n 2, 1) := by decide +kernel
theorem dX4_giveBack_22 : decode cX4_giveBack 22 = .ok (.ifCond .lt 8, 3) := by decide +kernel
theorem dX4_giveBack_25 : decode cX4_giveBack 25 = .ok (.iload_n 2, 1) := by decide +kernel
theorem dX4_giveBack_26 : decode cX4_giveBack 26 = .ok (.iload_n 1, 1) := by decide +kernel
theorem dX4_giveBack_27 : decode cX4_giveBack 27 = .ok (.if_icmp .ne 6, 3) := by decide +kernel
theorem dX4_giveBack_30 : decode cX4_giveBack 30 = .ok (.bipush (-5), 2) := by decide +kernel
theorem dX4_giveBack_32 : decode cX4_giveBack 32 = .ok (.ireturn, 1) := by decide +kernel
theorem dX4_giveBack_33 : decode cX4_giveBack 33 = .ok (.aload_n 0, 1) := by decide +kernel
theorem dX4_giveBack_34 : decode cX4_giveBack 34 = .ok (.iload_n 1, 1) := by decide +kernel
theorem dX4_giveBack_35 : decode cX4_giveBack 35 = .ok (.invokevirtual 43, 3) := by decide +kernel
theorem dX4_giveBack_38 : decode cX4_giveBack 38 = .ok (.ifCond .ne 19, 3) := by decide +kernel
theorem dX4_giveBack_41 : decode cX4_giveBack 41 = .ok (.aload_n 0, 1) := by decide +kernel
theorem dX4_giveBack_42 : decode cX4_giveBack 42 = .ok (.getfield 7, 3) := by decide +kernel
theorem dX4_giveBack_45 : decode cX4_giveBack 45 = .ok (.bipush 16, 2) := by decide +kernel
theorem dX4_giveBack_47 : decode cX4_giveBack 47 = .ok (.iload_n 1, 1) := by decide +kernel
theorem dX4_giveBack_48 : decode cX4_giveBack 48 = .ok (.bipush 16, 2) := by decide +kernel
theorem dX4_giveBack_50 : decode cX4_giveBack 50 = .ok (.idiv, 1) := by decide +kernel
theorem dX4_giveBack_51 : decode cX4_giveBack 51 = .ok (.iadd, 1) := by decide +kernel
theorem dX4_giveBack_52 : decode cX4_giveBack 52 = .ok (.iaload, 1) := by decide +kernel
theorem dX4_giveBack_53 : decode cX4_giveBack 53 = .ok (.iconst 1, 1) := by decide +kernel
theorem dX4_giveBack_54 : decode cX4_giveBack 54 = .ok (.if_icmp .ne 6, 3) := by decide +kernel
theorem dX4_giveBack_57 : decode cX4_giveBack 57 = .ok (.bipush (-4), 2) := by decide +kernel
theorem dX4_giveBack_59 : decode cX4_giveBack 59 = .ok (.ireturn, 1) := by decide +kernel
theorem dX4_giveBack_60 : decode cX4_giveBack 60 = .ok (.aload_n 0, 1) := by decide +kernel
theorem dX4_giveBack_61 : decode cX4_giveBack 61 = .ok (.aload_n 0, 1) := by decide +kernel
theorem dX4_giveBack_62 : decode cX4_giveBack 62 = .ok (.getfield 7, 3) := by decide +kernel
theorem dX4_giveBack_65 : decode cX4_giveBack 65 = .ok (.invokevirtual 84, 3) := by decide +kernel
theorem dX4_giveBack_68 : decode cX4_giveBack 68 = .ok (.aload_n 0, 1) := by decide +kernel
theorem dX4_giveBack_69 : decode cX4_giveBack 69 = .ok (.iload_n 1, 1) := by decide +kernel
theorem dX4_giveBack_70 : decode cX4_giveBack 70 = .ok (.invokevirtual 78, 3) := by decide +kernel
theorem dX4_giveBack_73 : decode cX4_giveBack 73 = .ok (.aload_n 0, 1) := by decide +kernel
theorem dX4_giveBack_74 : decode cX4_giveBack 74 = .ok (.iload_n 1, 1) := by decide +kernel
theorem dX4_giveBack_75 : decode cX4_giveBack 75 = .ok (.invokevirtual 64, 3) := by decide +kernel
theorem dX4_giveBack_78 : decode cX4_giveBack 78 = .ok (.aload_n 0, 1) := by decide +kernel
theorem dX4_giveBack_79 : decode cX4_giveBack 79 = .ok (.iload_n 1, 1) := by decide +kernel
theorem dX4_giveBack_80 : decode cX4_giveBack 80 = .ok (.iconst 1, 1) := by decide +kernel
theorem dX4_giveBack_81 : decode cX4_giveBack 81 = .ok (.invokevirtual 71, 3) := by decide +kernel
theorem dX4_giveBack_84 : decode cX4_giveBack 84 = .ok (.aload_n 0, 1) := by decide +kernel
theorem dX4_giveBack_85 : decode cX4_giveBack 85 = .ok (.getfield 7, 3) := by decide +kernel
theorem dX4_giveBack_88 : decode cX4_giveBack 88 = .ok (.sipush 148, 3) := by decide +kernel
theorem dX4_giveBack_91 : decode cX4_giveBack 91 = .ok (.iload_n 1, 1) := by decide +kernel
theorem dX4_giveBack_92 : decode cX4_giveBack 92 = .ok (.iadd, 1) := by decide +kernel
theorem dX4_giveBack_93 : decode cX4_giveBack 93 = .ok (.iload_n 1, 1) := by decide +kernel
theorem dX4_giveBack_94 : decode cX4_giveBack 94 = .ok (.iastore, 1) := by decide +kernel
theorem dX4_giveBack_95 : decode cX4_giveBack 95 = .ok (.iload_n 2, 1) := by decide +kernel
theorem dX4_giveBack_96 : decode cX4_giveBack 96 = .ok (.ireturn, 1) := by decide +kernel
set_option maxRecDepth 20000 in
theorem ggX4_givesUp_X4_isAddress : GoodIn wsX4_givesUp wsX4_isAddress := goodIn_r _ [6, 7, 8, 5, 9, 10, 11, 12, 13, 1, 47, 48, 49, 50, 51, 52, 53, 54, 55, 56] (by decide +kernel) (by decide +kernel)
set_option maxRecDepth 20000 in
theorem gX4_givesUp_X4_isAddress : GoodIn wsX4_givesUp (wsV RX4 40 RX4 yX4_isAddress wsX4_isAddress) := goodIn_app (goodIn_of _ (by decide +kernel)) ggX4_givesUp_X4_isAddress
set_option maxRecDepth 20000 in
theorem ggX4_givesUp_X4_isLost : GoodIn wsX4_givesUp wsX4_isLost := goodIn_r _ [17, 1, 47, 48, 49, 50, 51, 52, 53, 54, 55, 56] (by decide +kernel) (by decide +kernel)
set_option maxRecDepth 20000 in
theorem gX4_givesUp_X4_isLost : GoodIn wsX4_givesUp (wsV RX4 75 RX4 yX4_isLost wsX4_isLost) := goodIn_app (goodIn_of _ (by decide +kernel)) ggX4_givesUp_X4_isLost
set_option maxRecDepth 20000 in
theorem ggX4_givesUp_X4_lends : GoodIn wsX4_givesUp wsX4_lends := goodIn_r _ [21, 22, 23, 24, 5, 25, 26, 27, 28, 29, 1, 10, 11, 12, 13, 30, 31, 32, 33, 34, 35, 36, 37, 2, 3, 4, 6, 7, 8, 9, 38, 39, 40, 41, 47, 48, 49, 50, 51, 52, 53, 54, 55, 56] (by decide +kernel) (by decide +kernel)
set_option maxRecDepth 20000 in
theorem gX4_givesUp_X4_lends : GoodIn wsX4_givesUp (wsV RX4 68 RX4 yX4_lends wsX4_lends) := goodIn_app (goodIn_of _ (by decide +kernel)) ggX4_givesUp_X4_lends
set_option maxRecDepth 20000 in
theorem ggX4_givesUp_X4_wears : GoodIn wsX4_givesUp wsX4_wears := goodIn_r _ [45, 1, 46, 47, 48, 49, 50, 51, 52, 53, 54, 55, 56] (by decide +kernel) (by decide +kernel)
set_option maxRecDepth 20000 in
theorem gX4_givesUp_X4_wears : GoodIn wsX4_givesUp (wsV RX4 71 RX4 yX4_wears wsX4_wears) := goodIn_app (goodIn_of _ (by decide +kernel)) ggX4_givesUp_X4_wears
theorem dX4_givesUp_0 : decode cX4_givesUp 0 = .ok (.iconst 0, 1) := by decide +kernel
theorem dX4_givesUp_1 : decode cX4_givesUp 1 = .ok (.istore_n 2, 1) := by decide +kernel
theorem dX4_givesUp_2 : decode cX4_givesUp 2 = .ok (.aload_n 0, 1) := by decide +kernel
theorem dX4_givesUp_3 : decode cX4_givesUp 3 = .ok (.getfield 7, 3) := by decide +kernel
theorem dX4_givesUp_6 : decode cX4_givesUp 6 = .ok (.bipush 16, 2) := by decide +kernel
theorem dX4_givesUp_8 : decode cX4_givesUp 8 = .ok (.iload_n 1, 1) := by decide +kernel
theorem dX4_givesUp_9 : decode cX4_givesUp 9 = .ok (.iadd, 1) := by decide +kernel
theorem dX4_givesUp_10 : decode cX4_givesUp 10 = .ok (.iconst 1, 1) := by decide +kernel
theorem dX4_givesUp_11 : decode cX4_givesUp 11 = .ok (.iastore, 1) := by decide +kernel
theorem dX4_givesUp_12 : decode cX4_givesUp 12 = .ok (.iconst 0, 1) := by decide +kernel
theorem dX4_givesUp_13 : decode cX4_givesUp 13 = .ok (.istore_n 3, 1) := by decide +kernel
theorem dX4_givesUp_14 : decode cX4_givesUp 14 = .ok (.iload_n 3, 1) := by decide +kernel
theorem dX4_givesUp_15 : decode cX4_givesUp 15 = .ok (.bipush 64, 2) := by decide +kernel
theorem dX4_givesUp_17 : decode cX4_givesUp 17 = .ok (.if_icmp .ge 102, 3) := by decide +kernel
theorem dX4_givesUp_20 : decode cX4_givesUp 20 = .ok (.aload_n 0, 1) := by decide +kernel
theorem dX4_givesUp_21 : decode cX4_givesUp 21 = .ok (.iload_n 3, 1) := by decide +kernel
theorem dX4_givesUp_22 : decode cX4_givesUp 22 = .ok (.invokevirtual 40, 3) := by decide +kernel
theorem dX4_givesUp_25 : decode cX4_givesUp 25 = .ok (.ifCond .eq 88, 3) := by decide +kernel
theorem dX4_givesUp_28 : decode cX4_givesUp 28 = .ok (.aload_n 0, 1) := by decide +kernel
theorem dX4_givesUp_29 : decode cX4_givesUp 29 = .ok (.iload_n 3, 1) := by decide +kernel
theorem dX4_givesUp_30 : decode cX4_givesUp 30 = .ok (.invokevirtual 75, 3) := by decide +kernel
theorem dX4_givesUp_33 : decode cX4_givesUp 33 = .ok (.ifCond .ne 80, 3) := by decide +kernel
theorem dX4_givesUp_36 : decode cX4_givesUp 36 = .ok (.aload_n 0, 1) := by decide +kernel
theorem dX4_givesUp_37 : decode cX4_givesUp 37 = .ok (.getfield 7, 3) := by decide +kernel
theorem dX4_givesUp_40 : decode cX4_givesUp 40 = .ok (.sipush 148, 3) := by decide +kernel
theorem dX4_givesUp_43 : decode cX4_givesUp 43 = .ok (.iload_n 3, 1) := by decide +kernel
theorem dX4_givesUp_44 : decode cX4_givesUp 44 = .ok (.iadd, 1) := by decide +kernel
theorem dX4_givesUp_45 : decode cX4_givesUp 45 = .ok (.iaload, 1) := by decide +kernel
theorem dX4_givesUp_46 : decode cX4_givesUp 46 = .ok (.bipush 16, 2) := by decide +kernel
theorem dX4_givesUp_48 : decode cX4_givesUp 48 = .ok (.idiv, 1) := by decide +kernel
theorem dX4_givesUp_49 : decode cX4_givesUp 49 = .ok (.iload_n 1, 1) := by decide +kernel
theorem dX4_givesUp_50 : decode cX4_givesUp 50 = .ok (.if_icmp .ne 63, 3) := by decide +kernel
theorem dX4_givesUp_53 : decode cX4_givesUp 53 = .ok (.aload_n 0, 1) := by decide +kernel
theorem dX4_givesUp_54 : decode cX4_givesUp 54 = .ok (.iload_n 3, 1) := by decide +kernel
theorem dX4_givesUp_55 : decode cX4_givesUp 55 = .ok (.invokevirtual 68, 3) := by decide +kernel
theorem dX4_givesUp_58 : decode cX4_givesUp 58 = .ok (.istore 4, 2) := by decide +kernel
theorem dX4_givesUp_60 : decode cX4_givesUp 60 = .ok (.aload_n 0, 1) := by decide +kernel
theorem dX4_givesUp_61 : decode cX4_givesUp 61 = .ok (.getfield 7, 3) := by decide +kernel
theorem dX4_givesUp_64 : decode cX4_givesUp 64 = .ok (.sipush 148, 3) := by decide +kernel
theorem dX4_givesUp_67 : decode cX4_givesUp 67 = .ok (.iload_n 3, 1) := by decide +kernel
theorem dX4_givesUp_68 : decode cX4_givesUp 68 = .ok (.iadd, 1) := by decide +kernel
theorem dX4_givesUp_69 : decode cX4_givesUp 69 = .ok (.iload 4, 2) := by decide +kernel
theorem dX4_givesUp_71 : decode cX4_givesUp 71 = .ok (.bipush (-5), 2) := by decide +kernel
theorem dX4_givesUp_73 : decode cX4_givesUp 73 = .ok (.if_icmp .ne 7, 3) := by decide +kernel
theorem dX4_givesUp_76 : decode cX4_givesUp 76 = .ok (.iconst (-1), 1) := by decide +kernel
theorem dX4_givesUp_77 : decode cX4_givesUp 77 = .ok (.goto 5, 3) := by decide +kernel
theorem dX4_givesUp_80 : decode cX4_givesUp 80 = .ok (.iload 4, 2) := by decide +kernel
theorem dX4_givesUp_82 : decode cX4_givesUp 82 = .ok (.iastore, 1) := by decide +kernel
theorem dX4_givesUp_83 : decode cX4_givesUp 83 = .ok (.iload 4, 2) := by decide +kernel
theorem dX4_givesUp_85 : decode cX4_givesUp 85 = .ok (.bipush (-5), 2) := by decide +kernel
theorem dX4_givesUp_87 : decode cX4_givesUp 87 = .ok (.if_icmp .ne 19, 3) := by decide +kernel
theorem dX4_givesUp_90 : decode cX4_givesUp 90 = .ok (.iinc 2 1, 3) := by decide +kernel
theorem dX4_givesUp_93 : decode cX4_givesUp 93 = .ok (.aload_n 0, 1) := by decide +kernel
theorem dX4_givesUp_94 : decode cX4_givesUp 94 = .ok (.getfield 7, 3) := by decide +kernel
theorem dX4_givesUp_97 : decode cX4_givesUp 97 = .ok (.iconst 5, 1) := by decide +kernel
theorem dX4_givesUp_98 : decode cX4_givesUp 98 = .ok (.dup2, 1) := by decide +kernel
theorem dX4_givesUp_99 : decode cX4_givesUp 99 = .ok (.iaload, 1) := by decide +kernel
theorem dX4_givesUp_100 : decode cX4_givesUp 100 = .ok (.iconst 1, 1) := by decide +kernel
theorem dX4_givesUp_101 : decode cX4_givesUp 101 = .ok (.iadd, 1) := by decide +kernel
theorem dX4_givesUp_102 : decode cX4_givesUp 102 = .ok (.iastore, 1) := by decide +kernel
theorem dX4_givesUp_103 : decode cX4_givesUp 103 = .ok (.goto 10, 3) := by decide +kernel
theorem dX4_givesUp_106 : decode cX4_givesUp 106 = .ok (.aload_n 0, 1) := by decide +kernel
theorem dX4_givesUp_107 : decode cX4_givesUp 107 = .ok (.iload 4, 2) := by decide +kernel
theorem dX4_givesUp_109 : decode cX4_givesUp 109 = .ok (.iconst 1, 1) := by decide +kernel
theorem dX4_givesUp_110 : decode cX4_givesUp 110 = .ok (.invokevirtual 71, 3) := by decide +kernel
theorem dX4_givesUp_113 : decode cX4_givesUp 113 = .ok (.iinc 3 1, 3) := by decide +kernel
theorem dX4_givesUp_116 : decode cX4_givesUp 116 = .ok (.goto (-102), 3) := by decide +kernel
theorem dX4_givesUp_119 : decode cX4_givesUp 119 = .ok (.iload_n 2, 1) := by decide +kernel
theorem dX4_givesUp_120 : decode cX4_givesUp 120 = .ok (.ireturn, 1) := by decide +kernel
set_option maxRecDepth 20000 in
theorem ggX4_giveUp_X4_isHead : GoodIn wsX4_giveUp wsX4_isHead := goodIn_r _ [5, 6, 7, 4, 8] (by decide +kernel) (by decide +kernel)
set_option maxRecDepth 20000 in
theorem gX4_giveUp_X4_isHead : GoodIn wsX4_giveUp (va_wsS RX4 88 yX4_isHead wsX4_isHead) := goodIn_app (goodIn_of _ (by decide +kernel)) ggX4_giveUp_X4_isHead
set_option maxRecDepth 20000 in
theorem ggX4_giveUp_X4_record : GoodIn wsX4_giveUp wsX4_record := goodIn_r _ [12, 13, 14, 60, 61, 62, 63, 64, 65, 66, 67, 68, 69] (by decide +kernel) (by decide +kernel)
set_option maxRecDepth 20000 in
theorem gX4_giveUp_X4_record : GoodIn wsX4_giveUp (wsV RX4 84 RX4 yX4_record wsX4_record) := goodIn_app (goodIn_of _ (by decide +kernel)) ggX4_giveUp_X4_record
set_option maxRecDepth 20000 in
theorem ggX4_giveUp_X4_givesUp : GoodIn wsX4_giveUp wsX4_givesUp := goodIn_r _ [18, 1, 19, 20, 21, 4, 22, 6, 7, 8, 23, 24, 25, 26, 27, 28, 29, 30, 31, 32, 33, 34, 35, 36, 37, 38, 39, 40, 41, 42, 43, 44, 45, 46, 47, 48, 49, 50, 51, 52, 53, 54, 55, 56, 57, 58, 59, 60, 61, 62, 63, 64, 65, 66, 67, 68, 69] (by decide +kernel) (by decide +kernel)
set_option maxRecDepth 20000 in
theorem gX4_giveUp_X4_givesUp : GoodIn wsX4_giveUp (wsV RX4 112 RX4 yX4_givesUp wsX4_givesUp) := goodIn_app (goodIn_of _ (by decide +kernel)) ggX4_giveUp_X4_givesUp
theorem dX4_giveUp_0 : decode cX4_giveUp 0 = .ok (.iload_n 1, 1) := by decide +kernel
theorem dX4_giveUp_1 : decode cX4_giveUp 1 = .ok (.invokestatic 88, 3) := by decide +kernel
theorem dX4_giveUp_4 : decode cX4_giveUp 4 = .ok (.ifCond .ne 5, 3) := by decide +kernel
theorem dX4_giveUp_7 : decode cX4_giveUp 7 = .ok (.iconst (-1), 1) := by decide +kernel
theorem dX4_giveUp_8 : decode cX4_giveUp 8 = .ok (.ireturn, 1) := by decide +kernel
theorem dX4_giveUp_9 : decode cX4_giveUp 9 = .ok (.aload_n 0, 1) := by decide +kernel
theorem dX4_giveUp_10 : decode cX4_giveUp 10 = .ok (.getfield 7, 3) := by decide +kernel
theorem dX4_giveUp_13 : decode cX4_giveUp 13 = .ok (.bipush 16, 2) := by decide +kernel
theorem dX4_giveUp_15 : decode cX4_giveUp 15 = .ok (.iaload, 1) := by decide +kernel
theorem dX4_giveUp_16 : decode cX4_giveUp 16 = .ok (.aload_n 0, 1) := by decide +kernel
theorem dX4_giveUp_17 : decode cX4_giveUp 17 = .ok (.getfield 7, 3) := by decide +kernel
theorem dX4_giveUp_20 : decode cX4_giveUp 20 = .ok (.bipush 17, 2) := by decide +kernel
theorem dX4_giveUp_22 : decode cX4_giveUp 22 = .ok (.iaload, 1) := by decide +kernel
theorem dX4_giveUp_23 : decode cX4_giveUp 23 = .ok (.iadd, 1) := by decide +kernel
theorem dX4_giveUp_24 : decode cX4_giveUp 24 = .ok (.aload_n 0, 1) := by decide +kernel
theorem dX4_giveUp_25 : decode cX4_giveUp 25 = .ok (.getfield 7, 3) := by decide +kernel
theorem dX4_giveUp_28 : decode cX4_giveUp 28 = .ok (.bipush 18, 2) := by decide +kernel
theorem dX4_giveUp_30 : decode cX4_giveUp 30 = .ok (.iaload, 1) := by decide +kernel
theorem dX4_giveUp_31 : decode cX4_giveUp 31 = .ok (.iadd, 1) := by decide +kernel
theorem dX4_giveUp_32 : decode cX4_giveUp 32 = .ok (.aload_n 0, 1) := by decide +kernel
theorem dX4_giveUp_33 : decode cX4_giveUp 33 = .ok (.getfield 7, 3) := by decide +kernel
theorem dX4_giveUp_36 : decode cX4_giveUp 36 = .ok (.bipush 19, 2) := by decide +kernel
theorem dX4_giveUp_38 : decode cX4_giveUp 38 = .ok (.iaload, 1) := by decide +kernel
theorem dX4_giveUp_39 : decode cX4_giveUp 39 = .ok (.iadd, 1) := by decide +kernel
theorem dX4_giveUp_40 : decode cX4_giveUp 40 = .ok (.aload_n 0, 1) := by decide +kernel
theorem dX4_giveUp_41 : decode cX4_giveUp 41 = .ok (.getfield 7, 3) := by decide +kernel
theorem dX4_giveUp_44 : decode cX4_giveUp 44 = .ok (.bipush 16, 2) := by decide +kernel
theorem dX4_giveUp_46 : decode cX4_giveUp 46 = .ok (.iload_n 1, 1) := by decide +kernel
theorem dX4_giveUp_47 : decode cX4_giveUp 47 = .ok (.iadd, 1) := by decide +kernel
theorem dX4_giveUp_48 : decode cX4_giveUp 48 = .ok (.iaload, 1) := by decide +kernel
theorem dX4_giveUp_49 : decode cX4_giveUp 49 = .ok (.isub, 1) := by decide +kernel
theorem dX4_giveUp_50 : decode cX4_giveUp 50 = .ok (.istore_n 2, 1) := by decide +kernel
theorem dX4_giveUp_51 : decode cX4_giveUp 51 = .ok (.iload_n 2, 1) := by decide +kernel
theorem dX4_giveUp_52 : decode cX4_giveUp 52 = .ok (.iconst 3, 1) := by decide +kernel
theorem dX4_giveUp_53 : decode cX4_giveUp 53 = .ok (.if_icmp .ne 6, 3) := by decide +kernel
theorem dX4_giveUp_56 : decode cX4_giveUp 56 = .ok (.bipush (-4), 2) := by decide +kernel
theorem dX4_giveUp_58 : decode cX4_giveUp 58 = .ok (.ireturn, 1) := by decide +kernel
theorem dX4_giveUp_59 : decode cX4_giveUp 59 = .ok (.aload_n 0, 1) := by decide +kernel
theorem dX4_giveUp_60 : decode cX4_giveUp 60 = .ok (.getfield 7, 3) := by decide +kernel
theorem dX4_giveUp_63 : decode cX4_giveUp 63 = .ok (.bipush 16, 2) := by decide +kernel
theorem dX4_giveUp_65 : decode cX4_giveUp 65 = .ok (.iload_n 1, 1) := by decide +kernel
theorem dX4_giveUp_66 : decode cX4_giveUp 66 = .ok (.iadd, 1) := by decide +kernel
theorem dX4_giveUp_67 : decode cX4_giveUp 67 = .ok (.iaload, 1) := by decide +kernel
theorem dX4_giveUp_68 : decode cX4_giveUp 68 = .ok (.iconst 1, 1) := by decide +kernel
theorem dX4_giveUp_69 : decode cX4_giveUp 69 = .ok (.if_icmp .ne 6, 3) := by decide +kernel
theorem dX4_giveUp_72 : decode cX4_giveUp 72 = .ok (.bipush (-5), 2) := by decide +kernel
theorem dX4_giveUp_74 : decode cX4_giveUp 74 = .ok (.ireturn, 1) := by decide +kernel
theorem dX4_giveUp_75 : decode cX4_giveUp 75 = .ok (.aload_n 0, 1) := by decide +kernel
theorem dX4_giveUp_76 : decode cX4_giveUp 76 = .ok (.aload_n 0, 1) := by decide +kernel
theorem dX4_giveUp_77 : decode cX4_giveUp 77 = .ok (.getfield 7, 3) := by decide +kernel
theorem dX4_giveUp_80 : decode cX4_giveUp 80 = .ok (.invokevirtual 84, 3) := by decide +kernel
theorem dX4_giveUp_83 : decode cX4_giveUp 83 = .ok (.aload_n 0, 1) := by decide +kernel
theorem dX4_giveUp_84 : decode cX4_giveUp 84 = .ok (.iload_n 1, 1) := by decide +kernel
theorem dX4_giveUp_85 : decode cX4_giveUp 85 = .ok (.invokevirtual 112, 3) := by decide +kernel
theorem dX4_giveUp_88 : decode cX4_giveUp 88 = .ok (.ireturn, 1) := by decide +kernel
theorem dX4_stands_0 : decode cX4_stands 0 = .ok (.aload_n 0, 1) := by decide +kernel
theorem dX4_stands_1 : decode cX4_stands 1 = .ok (.getfield 115, 3) := by decide +kernel
theorem dX4_stands_4 : decode cX4_stands 4 = .ok (.aload_n 0, 1) := by decide +kernel
theorem dX4_stands_5 : decode cX4_stands 5 = .ok (.getfield 118, 3) := by decide +kernel
theorem dX4_stands_8 : decode cX4_stands 8 = .ok (.if_icmp .ge 20, 3) := by decide +kernel
theorem dX4_stands_11 : decode cX4_stands 11 = .ok (.aload_n 0, 1) := by decide +kernel
theorem dX4_stands_12 : decode cX4_stands 12 = .ok (.getfield 25, 3) := by decide +kernel
theorem dX4_stands_15 : decode cX4_stands 15 = .ok (.aload_n 0, 1) := by decide +kernel
theorem dX4_stands_16 : decode cX4_stands 16 = .ok (.getfield 115, 3) := by decide +kernel
theorem dX4_stands_19 : decode cX4_stands 19 = .ok (.iaload, 1) := by decide +kernel
theorem dX4_stands_20 : decode cX4_stands 20 = .ok (.iload_n 1, 1) := by decide +kernel
theorem dX4_stands_21 : decode cX4_stands 21 = .ok (.if_icmp .ne 7, 3) := by decide +kernel
theorem dX4_stands_24 : decode cX4_stands 24 = .ok (.iconst 1, 1) := by decide +kernel
theorem dX4_stands_25 : decode cX4_stands 25 = .ok (.goto 4, 3) := by decide +kernel
theorem dX4_stands_28 : decode cX4_stands 28 = .ok (.iconst 0, 1) := by decide +kernel
theorem dX4_stands_29 : decode cX4_stands 29 = .ok (.istore_n 2, 1) := by decide +kernel
theorem dX4_stands_30 : decode cX4_stands 30 = .ok (.aload_n 0, 1) := by decide +kernel
theorem dX4_stands_31 : decode cX4_stands 31 = .ok (.dup, 1) := by decide +kernel
theorem dX4_stands_32 : decode cX4_stands 32 = .ok (.getfield 115, 3) := by decide +kernel
theorem dX4_stands_35 : decode cX4_stands 35 = .ok (.iload_n 2, 1) := by decide +kernel
theorem dX4_stands_36 : decode cX4_stands 36 = .ok (.ifCond .eq 7, 3) := by decide +kernel
theorem dX4_stands_39 : decode cX4_stands 39 = .ok (.iconst 1, 1) := by decide +kernel
theorem dX4_stands_40 : decode cX4_stands 40 = .ok (.goto 4, 3) := by decide +kernel
theorem dX4_stands_43 : decode cX4_stands 43 = .ok (.iconst 0, 1) := by decide +kernel
theorem dX4_stands_44 : decode cX4_stands 44 = .ok (.iadd, 1) := by decide +kernel
theorem dX4_stands_45 : decode cX4_stands 45 = .ok (.putfield 115, 3) := by decide +kernel
theorem dX4_stands_48 : decode cX4_stands 48 = .ok (.iload_n 2, 1) := by decide +kernel
theorem dX4_stands_49 : decode cX4_stands 49 = .ok (.ireturn, 1) := by decide +kernel
set_option maxRecDepth 20000 in
theorem ggX4_number_X4_in : GoodIn wsX4_number wsX4_in := goodIn_r _ [7] (by decide +kernel) (by decide +kernel)
set_option maxRecDepth 20000 in
theorem gX4_number_X4_in : GoodIn wsX4_number (va_wsS RX4 32 yX4_in wsX4_in) := goodIn_app (goodIn_of _ (by decide +kernel)) ggX4_number_X4_in
theorem dX4_number_0 : decode cX4_number 0 = .ok (.aload_n 0, 1) := by decide +kernel
theorem dX4_number_1 : decode cX4_number 1 = .ok (.getfield 115, 3) := by decide +kernel
theorem dX4_number_4 : decode cX4_number 4 = .ok (.aload_n 0, 1) := by decide +kernel
theorem dX4_number_5 : decode cX4_number 5 = .ok (.getfield 118, 3) := by decide +kernel
theorem dX4_number_8 : decode cX4_number 8 = .ok (.if_icmp .eq 22, 3) := by decide +kernel
theorem dX4_number_11 : decode cX4_number 11 = .ok (.aload_n 0, 1) := by decide +kernel
theorem dX4_number_12 : decode cX4_number 12 = .ok (.getfield 25, 3) := by decide +kernel
theorem dX4_number_15 : decode cX4_number 15 = .ok (.aload_n 0, 1) := by decide +kernel
theorem dX4_number_16 : decode cX4_number 16 = .ok (.getfield 115, 3) := by decide +kernel
theorem dX4_number_19 : decode cX4_number 19 = .ok (.iaload, 1) := by decide +kernel
theorem dX4_number_20 : decode cX4_number 20 = .ok (.bipush 48, 2) := by decide +kernel
theorem dX4_number_22 : decode cX4_number 22 = .ok (.bipush 57, 2) := by decide +kernel
theorem dX4_number_24 : decode cX4_number 24 = .ok (.invokestatic 32, 3) := by decide +kernel
theorem dX4_number_27 : decode cX4_number 27 = .ok (.ifCond .ne 5, 3) := by decide +kernel
theorem dX4_number_30 : decode cX4_number 30 = .ok (.iconst (-1), 1) := by decide +kernel
theorem dX4_number_31 : decode cX4_number 31 = .ok (.ireturn, 1) := by decide +kernel
theorem dX4_number_32 : decode cX4_number 32 = .ok (.aload_n 0, 1) := by decide +kernel
theorem dX4_number_33 : decode cX4_number 33 = .ok (.getfield 25, 3) := by decide +kernel
theorem dX4_number_36 : decode cX4_number 36 = .ok (.aload_n 0, 1) := by decide +kernel
theorem dX4_number_37 : decode cX4_number 37 = .ok (.getfield 115, 3) := by decide +kernel
theorem dX4_number_40 : decode cX4_number 40 = .ok (.iaload, 1) := by decide +kernel
theorem dX4_number_41 : decode cX4_number 41 = .ok (.bipush 48, 2) := by decide +kernel
theorem dX4_number_43 : decode cX4_number 43 = .ok (.isub, 1) := by decide +kernel
theorem dX4_number_44 : decode cX4_number 44 = .ok (.istore_n 2, 1) := by decide +kernel
theorem dX4_number_45 : decode cX4_number 45 = .ok (.aload_n 0, 1) := by decide +kernel
theorem dX4_number_46 : decode cX4_number 46 = .ok (.dup, 1) := by decide +kernel
theorem dX4_number_47 : decode cX4_number 47 = .ok (.getfield 115, 3) := by decide +kernel
theorem dX4_number_50 : decode cX4_number 50 = .ok (.iconst 1, 1) := by decide +kernel
theorem dX4_number_51 : decode cX4_number 51 = .ok (.iadd, 1) := by decide +kernel
theorem dX4_number_52 : decode cX4_number 52 = .ok (.putfield 115, 3) := by decide +kernel
theorem dX4_number_55 : decode cX4_number 55 = .ok (.iload_n 2, 1) := by decide +kernel
theorem dX4_number_56 : decode cX4_number 56 = .ok (.ifCond .le 85, 3) := by decide +kernel
theorem dX4_number_59 : decode cX4_number 59 = .ok (.aload_n 0, 1) := by decide +kernel
theorem dX4_number_60 : decode cX4_number 60 = .ok (.getfield 115, 3) := by decide +kernel
theorem dX4_number_63 : decode cX4_number 63 = .ok (.aload_n 0, 1) := by decide +kernel
theorem dX4_number_64 : decode cX4_number 64 = .ok (.getfield 118, 3) := by decide +kernel
theorem dX4_number_67 : decode cX4_number 67 = .ok (.if_icmp .ge 74, 3) := by decide +kernel
theorem dX4_number_70 : decode cX4_number 70 = .ok (.aload_n 0, 1) := by decide +kernel
theorem dX4_number_71 : decode cX4_number 71 = .ok (.getfield 25, 3) := by decide +kernel
theorem dX4_number_74 : decode cX4_number 74 = .ok (.aload_n 0, 1) := by decide +kernel
theorem dX4_number_75 : decode cX4_number 75 = .ok (.getfield 115, 3) := by decide +kernel
theorem dX4_number_78 : decode cX4_number 78 = .ok (.iaload, 1) := by decide +kernel
theorem dX4_number_79 : decode cX4_number 79 = .ok (.bipush 48, 2) := by decide +kernel
theorem dX4_number_81 : decode cX4_number 81 = .ok (.bipush 57, 2) := by decide +kernel
theorem dX4_number_83 : decode cX4_number 83 = .ok (.invokestatic 32, 3) := by decide +kernel
theorem dX4_number_86 : decode cX4_number 86 = .ok (.ifCond .eq 55, 3) := by decide +kernel
theorem dX4_number_89 : decode cX4_number 89 = .ok (.bipush 10, 2) := by decide +kernel
theorem dX4_number_91 : decode cX4_number 91 = .ok (.iload_n 2, 1) := by decide +kernel
theorem dX4_number_92 : decode cX4_number 92 = .ok (.imul, 1) := by decide +kernel
theorem dX4_number_93 : decode cX4_number 93 = .ok (.aload_n 0, 1) := by decide +kernel
theorem dX4_number_94 : decode cX4_number 94 = .ok (.getfield 25, 3) := by decide +kernel
theorem dX4_number_97 : decode cX4_number 97 = .ok (.aload_n 0, 1) := by decide +kernel
theorem dX4_number_98 : decode cX4_number 98 = .ok (.getfield 115, 3) := by decide +kernel
theorem dX4_number_101 : decode cX4_number 101 = .ok (.iaload, 1) := by decide +kernel
theorem dX4_number_102 : decode cX4_number 102 = .ok (.iadd, 1) := by decide +kernel
theorem dX4_number_103 : decode cX4_number 103 = .ok (.bipush 48, 2) := by decide +kernel
theorem dX4_number_105 : decode cX4_number 105 = .ok (.isub, 1) := by decide +kernel
theorem dX4_number_106 : decode cX4_number 106 = .ok (.iload_n 1, 1) := by decide +kernel
theorem dX4_number_107 : decode cX4_number 107 = .ok (.if_icmp .gt 34, 3) := by decide +kernel
theorem dX4_number_110 : decode cX4_number 110 = .ok (.bipush 10, 2) := by decide +kernel
theorem dX4_number_112 : decode cX4_number 112 = .ok (.iload_n 2, 1) := by decide +kernel
theorem dX4_number_113 : decode cX4_number 113 = .ok (.imul, 1) := by decide +kernel
theorem dX4_number_114 : decode cX4_number 114 = .ok (.aload_n 0, 1) := by decide +kernel
theorem dX4_number_115 : decode cX4_number 115 = .ok (.getfield 25, 3) := by decide +kernel
theorem dX4_number_118 : decode cX4_number 118 = .ok (.aload_n 0, 1) := by decide +kernel
theorem dX4_number_119 : decode cX4_number 119 = .ok (.getfield 115, 3) := by decide +kernel
theorem dX4_number_122 : decode cX4_number 122 = .ok (.iaload, 1) := by decide +kernel
theorem dX4_number_123 : decode cX4_number 123 = .ok (.iadd, 1) := by decide +kernel
theorem dX4_number_124 : decode cX4_number 124 = .ok (.bipush 48, 2) := by decide +kernel
theorem dX4_number_126 : decode cX4_number 126 = .ok (.isub, 1) := by decide +kernel
theorem dX4_number_127 : decode cX4_number 127 = .ok (.istore_n 2, 1) := by decide +kernel
theorem dX4_number_128 : decode cX4_number 128 = .ok (.aload_n 0, 1) := by decide +kernel
theorem dX4_number_129 : decode cX4_number 129 = .ok (.dup, 1) := by decide +kernel
theorem dX4_number_130 : decode cX4_number 130 = .ok (.getfield 115, 3) := by decide +kernel
theorem dX4_number_133 : decode cX4_number 133 = .ok (.iconst 1, 1) := by decide +kernel
theorem dX4_number_134 : decode cX4_number 134 = .ok (.iadd, 1) := by decide +kernel
theorem dX4_number_135 : decode cX4_number 135 = .ok (.putfield 115, 3) := by decide +kernel
theorem dX4_number_138 : decode cX4_number 138 = .ok (.goto (-83), 3) := by decide +kernel
theorem dX4_number_141 : decode cX4_number 141 = .ok (.iload_n 2, 1) := by decide +kernel
theorem dX4_number_142 : decode cX4_number 142 = .ok (.ireturn, 1) := by decide +kernel
set_option maxRecDepth 20000 in
theorem ggX4_command_X4_stands : GoodIn wsX4_command wsX4_stands := goodIn_r _ [5, 6, 7, 8, 81, 82, 83, 84, 85, 86, 87, 88, 89, 90] (by decide +kernel) (by decide +kernel)
set_option maxRecDepth 20000 in
theorem gX4_command_X4_stands : GoodIn wsX4_command (wsV RX4 121 RX4 yX4_stands wsX4_stands) := goodIn_app (goodIn_of _ (by decide +kernel)) ggX4_command_X4_stands
set_option maxRecDepth 20000 in
theorem ggX4_command_X4_number : GoodIn wsX4_command wsX4_number := goodIn_r _ [12, 6, 7, 8, 13, 14, 4, 15, 81, 82, 83, 84, 85, 86, 87, 88, 89, 90] (by decide +kernel) (by decide +kernel)
set_option maxRecDepth 20000 in
theorem gX4_command_X4_number : GoodIn wsX4_command (wsV RX4 124 RX4 yX4_number wsX4_number) := goodIn_app (goodIn_of _ (by decide +kernel)) ggX4_command_X4_number
set_option maxRecDepth 20000 in
theorem ggX4_command_X4_reads : GoodIn wsX4_command wsX4_reads := goodIn_r _ [19, 20, 21, 22, 23, 4, 24, 13, 14, 15, 25, 26, 27, 28, 29, 30, 31, 32, 33, 34, 35, 36, 37, 38, 39, 40, 41, 42, 43, 44, 45, 46, 47, 48, 49, 50, 51, 52, 53, 54, 55, 56, 57, 58, 59, 60, 61, 62, 63, 64, 65, 66, 67, 68, 69, 70, 71, 72, 73, 74, 75, 76, 81, 82, 83, 84, 85, 86, 87, 88, 89, 90] (by decide +kernel) (by decide +kernel)
set_option maxRecDepth 20000 in
theorem gX4_command_X4_reads : GoodIn wsX4_command (wsV RX4 98 RX4 yX4_reads wsX4_reads) := goodIn_app (goodIn_of _ (by decide +kernel)) ggX4_command_X4_reads
set_option maxRecDepth 20000 in
theorem ggX4_command_X4_writes : GoodIn wsX4_command wsX4_writes := goodIn_r _ [80, 20, 21, 22, 23, 4, 24, 13, 14, 15, 25, 26, 27, 28, 29, 30, 31, 32, 57, 58, 59, 60, 61, 62, 63, 64, 65, 66, 67, 68, 53, 54, 55, 56, 69, 70, 71, 72, 73, 74, 75, 76, 33, 34, 35, 36, 37, 38, 39, 40, 41, 42, 43, 44, 45, 46, 47, 48, 49, 50, 51, 52, 81, 82, 83, 84, 85, 86, 87, 88, 89, 90] (by decide +kernel) (by decide +kernel)
set_option maxRecDepth 20000 in
theorem gX4_command_X4_writes : GoodIn wsX4_command (wsV RX4 101 RX4 yX4_writes wsX4_writes) := goodIn_app (goodIn_of _ (by decide +kernel)) ggX4_command_X4_writes
theorem dX4_command_0 : decode cX4_command 0 = .ok (.aload_n 0, 1) := by decide +kernel
theorem dX4_command_1 : decode cX4_command 1 = .ok (.bipush 114, 2) := by decide +kernel
theorem dX4_command_3 : decode cX4_command 3 = .ok (.invokevirtual 121, 3) := by decide +kernel
theorem dX4_command_6 : decode cX4_command 6 = .ok (.istore_n 2, 1) := by decide +kernel
theorem dX4_command_7 : decode cX4_command 7 = .ok (.iload_n 2, 1) := by decide +kernel
theorem dX4_command_8 : decode cX4_command 8 = .ok (.ifCond .ne 16, 3) := by decide +kernel
theorem dX4_command_11 : decode cX4_command 11 = .ok (.aload_n 0, 1) := by decide +kernel
theorem dX4_command_12 : decode cX4_command 12 = .ok (.bipush 119, 2) := by decide +kernel
theorem dX4_command_14 : decode cX4_command 14 = .ok (.invokevirtual 121, 3) := by decide +kernel
theorem dX4_command_17 : decode cX4_command 17 = .ok (.ifCond .ne 7, 3) := by decide +kernel
theorem dX4_command_20 : decode cX4_command 20 = .ok (.sipush (-1000), 3) := by decide +kernel
theorem dX4_command_23 : decode cX4_command 23 = .ok (.ireturn, 1) := by decide +kernel
theorem dX4_command_24 : decode cX4_command 24 = .ok (.aload_n 0, 1) := by decide +kernel
theorem dX4_command_25 : decode cX4_command 25 = .ok (.bipush 63, 2) := by decide +kernel
theorem dX4_command_27 : decode cX4_command 27 = .ok (.invokevirtual 124, 3) := by decide +kernel
theorem dX4_command_30 : decode cX4_command 30 = .ok (.istore_n 3, 1) := by decide +kernel
theorem dX4_command_31 : decode cX4_command 31 = .ok (.iload_n 3, 1) := by decide +kernel
theorem dX4_command_32 : decode cX4_command 32 = .ok (.ifCond .lt 16, 3) := by decide +kernel
theorem dX4_command_35 : decode cX4_command 35 = .ok (.iload_n 2, 1) := by decide +kernel
theorem dX4_command_36 : decode cX4_command 36 = .ok (.ifCond .ne 16, 3) := by decide +kernel
theorem dX4_command_39 : decode cX4_command 39 = .ok (.aload_n 0, 1) := by decide +kernel
theorem dX4_command_40 : decode cX4_command 40 = .ok (.bipush 61, 2) := by decide +kernel
theorem dX4_command_42 : decode cX4_command 42 = .ok (.invokevirtual 121, 3) := by decide +kernel
theorem dX4_command_45 : decode cX4_command 45 = .ok (.ifCond .ne 7, 3) := by decide +kernel
theorem dX4_command_48 : decode cX4_command 48 = .ok (.sipush (-1000), 3) := by decide +kernel
theorem dX4_command_51 : decode cX4_command 51 = .ok (.ireturn, 1) := by decide +kernel
theorem dX4_command_52 : decode cX4_command 52 = .ok (.iload_n 2, 1) := by decide +kernel
theorem dX4_command_53 : decode cX4_command 53 = .ok (.ifCond .eq 7, 3) := by decide +kernel
theorem dX4_command_56 : decode cX4_command 56 = .ok (.iconst 0, 1) := by decide +kernel
theorem dX4_command_57 : decode cX4_command 57 = .ok (.goto 10, 3) := by decide +kernel
theorem dX4_command_60 : decode cX4_command 60 = .ok (.aload_n 0, 1) := by decide +kernel
theorem dX4_command_61 : decode cX4_command 61 = .ok (.sipush 999, 3) := by decide +kernel
theorem dX4_command_64 : decode cX4_command 64 = .ok (.invokevirtual 124, 3) := by decide +kernel
theorem dX4_command_67 : decode cX4_command 67 = .ok (.istore 4, 2) := by decide +kernel
theorem dX4_command_69 : decode cX4_command 69 = .ok (.iload 4, 2) := by decide +kernel
theorem dX4_command_71 : decode cX4_command 71 = .ok (.ifCond .ge 7, 3) := by decide +kernel
theorem dX4_command_74 : decode cX4_command 74 = .ok (.sipush (-1000), 3) := by decide +kernel
theorem dX4_command_77 : decode cX4_command 77 = .ok (.ireturn, 1) := by decide +kernel
theorem dX4_command_78 : decode cX4_command 78 = .ok (.iload_n 1, 1) := by decide +kernel
theorem dX4_command_79 : decode cX4_command 79 = .ok (.ifCond .ne 7, 3) := by decide +kernel
theorem dX4_command_82 : decode cX4_command 82 = .ok (.iconst 0, 1) := by decide +kernel
theorem dX4_command_83 : decode cX4_command 83 = .ok (.goto 22, 3) := by decide +kernel
theorem dX4_command_86 : decode cX4_command 86 = .ok (.iload_n 2, 1) := by decide +kernel
theorem dX4_command_87 : decode cX4_command 87 = .ok (.ifCond .eq 11, 3) := by decide +kernel
theorem dX4_command_90 : decode cX4_command 90 = .ok (.aload_n 0, 1) := by decide +kernel
theorem dX4_command_91 : decode cX4_command 91 = .ok (.iload_n 3, 1) := by decide +kernel
theorem dX4_command_92 : decode cX4_command 92 = .ok (.invokevirtual 98, 3) := by decide +kernel
theorem dX4_command_95 : decode cX4_command 95 = .ok (.goto 10, 3) := by decide +kernel
theorem dX4_command_98 : decode cX4_command 98 = .ok (.aload_n 0, 1) := by decide +kernel
theorem dX4_command_99 : decode cX4_command 99 = .ok (.iload_n 3, 1) := by decide +kernel
theorem dX4_command_100 : decode cX4_command 100 = .ok (.iload 4, 2) := by decide +kernel
theorem dX4_command_102 : decode cX4_command 102 = .ok (.invokevirtual 101, 3) := by decide +kernel
theorem dX4_command_105 : decode cX4_command 105 = .ok (.ireturn, 1) := by decide +kernel
set_option maxRecDepth 20000 in
theorem ggX4_commands_X4_command : GoodIn wsX4_commands wsX4_command := goodIn_r _ [7, 8, 9, 10, 6, 11, 1, 2, 12, 13, 14, 15, 16, 17, 18, 19, 20, 21, 22, 23, 24, 25, 26, 27, 28, 29, 30, 31, 32, 33, 34, 35, 36, 37, 38, 39, 40, 41, 42, 43, 44, 45, 46, 47, 48, 49, 50, 51, 52, 53, 54, 55, 56, 57, 58, 59, 60, 61, 62, 63, 64, 65, 66, 67, 68, 69, 70, 71, 72, 73, 74, 75, 76, 77, 78, 79, 80, 81, 82, 83, 84, 85, 86, 87, 88, 89, 90, 91, 92, 93, 94] (by decide +kernel) (by decide +kernel)
set_option maxRecDepth 20000 in
theorem gX4_commands_X4_command : GoodIn wsX4_commands (wsV RX4 127 RX4 yX4_command wsX4_command) := goodIn_app (goodIn_of _ (by decide +kernel)) ggX4_commands_X4_command
set_option maxRecDepth 20000 in
theorem ggX4_commands_X4_stands : GoodIn wsX4_commands wsX4_stands := goodIn_r _ [11, 1, 2, 12, 85, 86, 87, 88, 89, 90, 91, 92, 93, 94] (by decide +kernel) (by decide +kernel)
set_option maxRecDepth 20000 in
theorem gX4_commands_X4_stands : GoodIn wsX4_commands (wsV RX4 121 RX4 yX4_stands wsX4_stands) := goodIn_app (goodIn_of _ (by decide +kernel)) ggX4_commands_X4_stands
theorem dX4_commands_0 : decode cX4_commands 0 = .ok (.aload_n 0, 1) := by decide +kernel
theorem dX4_commands_1 : decode cX4_commands 1 = .ok (.iconst 0, 1) := by decide +kernel
theorem dX4_commands_2 : decode cX4_commands 2 = .ok (.putfield 115, 3) := by decide +kernel
theorem dX4_commands_5 : decode cX4_commands 5 = .ok (.iconst 0, 1) := by decide +kernel
theorem dX4_commands_6 : decode cX4_commands 6 = .ok (.istore_n 1, 1) := by decide +kernel
theorem dX4_commands_7 : decode cX4_commands 7 = .ok (.aload_n 0, 1) := by decide +kernel
theorem dX4_commands_8 : decode cX4_commands 8 = .ok (.iconst 0, 1) := by decide +kernel
theorem dX4_commands_9 : decode cX4_commands 9 = .ok (.invokevirtual 127, 3) := by decide +kernel
theorem dX4_commands_12 : decode cX4_commands 12 = .ok (.ifCond .lt 30, 3) := by decide +kernel
theorem dX4_commands_15 : decode cX4_commands 15 = .ok (.iinc 1 1, 3) := by decide +kernel
theorem dX4_commands_18 : decode cX4_commands 18 = .ok (.aload_n 0, 1) := by decide +kernel
theorem dX4_commands_19 : decode cX4_commands 19 = .ok (.getfield 115, 3) := by decide +kernel
theorem dX4_commands_22 : decode cX4_commands 22 = .ok (.aload_n 0, 1) := by decide +kernel
theorem dX4_commands_23 : decode cX4_commands 23 = .ok (.getfield 118, 3) := by decide +kernel
theorem dX4_commands_26 : decode cX4_commands 26 = .ok (.if_icmp .ne 5, 3) := by decide +kernel
theorem dX4_commands_29 : decode cX4_commands 29 = .ok (.iload_n 1, 1) := by decide +kernel
theorem dX4_commands_30 : decode cX4_commands 30 = .ok (.ireturn, 1) := by decide +kernel
theorem dX4_commands_31 : decode cX4_commands 31 = .ok (.aload_n 0, 1) := by decide +kernel
theorem dX4_commands_32 : decode cX4_commands 32 = .ok (.bipush 59, 2) := by decide +kernel
theorem dX4_commands_34 : decode cX4_commands 34 = .ok (.invokevirtual 121, 3) := by decide +kernel
theorem dX4_commands_37 : decode cX4_commands 37 = .ok (.ifCond .ne (-30), 3) := by decide +kernel
theorem dX4_commands_40 : decode cX4_commands 40 = .ok (.iconst 0, 1) := by decide +kernel
theorem dX4_commands_41 : decode cX4_commands 41 = .ok (.ireturn, 1) := by decide +kernel
theorem dX4_commands_42 : decode cX4_commands 42 = .ok (.iconst 0, 1) := by decide +kernel
theorem dX4_commands_43 : decode cX4_commands 43 = .ok (.ireturn, 1) := by decide +kernel
set_option maxRecDepth 20000 in
theorem ggX4_perform_X4_commands : GoodIn wsX4_perform wsX4_commands := goodIn_r _ [8, 1, 9, 10, 11, 12, 7, 13, 14, 15, 16, 17, 18, 19, 20, 21, 22, 23, 24, 25, 26, 27, 28, 29, 2, 30, 31, 32, 33, 34, 35, 36, 37, 38, 39, 40, 41, 42, 43, 44, 45, 46, 47, 48, 49, 50, 51, 52, 53, 54, 55, 56, 57, 58, 59, 60, 61, 62, 63, 64, 65, 66, 67, 68, 69, 70, 71, 72, 73, 74, 75, 76, 77, 78, 79, 80, 81, 82, 83, 84, 85, 86, 87, 88, 89, 99, 100, 101, 102, 103, 104, 105, 106, 107, 108] (by decide +kernel) (by decide +kernel)
set_option maxRecDepth 20000 in
theorem gX4_perform_X4_commands : GoodIn wsX4_perform (wsV RX4 131 RX4 yX4_commands wsX4_commands) := goodIn_app (goodIn_of _ (by decide +kernel)) ggX4_perform_X4_commands
set_option maxRecDepth 20000 in
theorem ggX4_perform_X4_copies : GoodIn wsX4_perform wsX4_copies := goodIn_r _ [92] (by decide +kernel) (by decide +kernel)
set_option maxRecDepth 20000 in
theorem gX4_perform_X4_copies : GoodIn wsX4_perform (va_wsS RX4 94 yX4_copies wsX4_copies) := goodIn_app (goodIn_of _ (by decide +kernel)) ggX4_perform_X4_copies
set_option maxRecDepth 20000 in
theorem ggX4_perform_X4_command : GoodIn wsX4_perform wsX4_command := goodIn_r _ [13, 14, 15, 16, 7, 17, 1, 9, 18, 19, 20, 21, 22, 23, 24, 25, 26, 27, 28, 29, 2, 30, 31, 32, 33, 34, 35, 36, 37, 38, 39, 40, 41, 42, 43, 44, 45, 46, 47, 48, 49, 50, 51, 52, 53, 54, 55, 56, 57, 58, 59, 60, 61, 62, 63, 64, 65, 66, 67, 68, 69, 70, 71, 72, 73, 74, 75, 76, 77, 78, 79, 80, 81, 82, 83, 84, 85, 86, 87, 88, 89, 99, 100, 101, 102, 103, 104, 105, 106, 107, 108] (by decide +kernel) (by decide +kernel)
set_option maxRecDepth 20000 in
theorem gX4_perform_X4_command : GoodIn wsX4_perform (wsV RX4 127 RX4 yX4_command wsX4_command) := goodIn_app (goodIn_of _ (by decide +kernel)) ggX4_perform_X4_command
set_option maxRecDepth 20000 in
theorem ggX4_perform_X4_record : GoodIn wsX4_perform wsX4_record := goodIn_r _ [96, 97, 98, 99, 100, 101, 102, 103, 104, 105, 106, 107, 108] (by decide +kernel) (by decide +kernel)
set_option maxRecDepth 20000 in
theorem gX4_perform_X4_record : GoodIn wsX4_perform (wsV RX4 84 RX4 yX4_record wsX4_record) := goodIn_app (goodIn_of _ (by decide +kernel)) ggX4_perform_X4_record
theorem dX4_perform_0 : decode cX4_perform 0 = .ok (.aload_n 0, 1) := by decide +kernel
theorem dX4_perform_1 : decode cX4_perform 1 = .ok (.invokevirtual 131, 3) := by decide +kernel
theorem dX4_perform_4 : decode cX4_perform 4 = .ok (.istore_n 1, 1) := by decide +kernel
theorem dX4_perform_5 : decode cX4_perform 5 = .ok (.iload_n 1, 1) := by decide +kernel
theorem dX4_perform_6 : decode cX4_perform 6 = .ok (.ifCond .ne 11, 3) := by decide +kernel
theorem dX4_perform_9 : decode cX4_perform 9 = .ok (.bipush (-100), 2) := by decide +kernel
theorem dX4_perform_11 : decode cX4_perform 11 = .ok (.aload_n 0, 1) := by decide +kernel
theorem dX4_perform_12 : decode cX4_perform 12 = .ok (.getfield 115, 3) := by decide +kernel
theorem dX4_perform_15 : decode cX4_perform 15 = .ok (.isub, 1) := by decide +kernel
theorem dX4_perform_16 : decode cX4_perform 16 = .ok (.ireturn, 1) := by decide +kernel
theorem dX4_perform_17 : decode cX4_perform 17 = .ok (.aload_n 0, 1) := by decide +kernel
theorem dX4_perform_18 : decode cX4_perform 18 = .ok (.getfield 7, 3) := by decide +kernel
theorem dX4_perform_21 : decode cX4_perform 21 = .ok (.aload_n 0, 1) := by decide +kernel
theorem dX4_perform_22 : decode cX4_perform 22 = .ok (.getfield 13, 3) := by decide +kernel
theorem dX4_perform_25 : decode cX4_perform 25 = .ok (.invokestatic 94, 3) := by decide +kernel
theorem dX4_perform_28 : decode cX4_perform 28 = .ok (.aload_n 0, 1) := by decide +kernel
theorem dX4_perform_29 : decode cX4_perform 29 = .ok (.iconst 0, 1) := by decide +kernel
theorem dX4_perform_30 : decode cX4_perform 30 = .ok (.putfield 115, 3) := by decide +kernel
theorem dX4_perform_33 : decode cX4_perform 33 = .ok (.iconst 0, 1) := by decide +kernel
theorem dX4_perform_34 : decode cX4_perform 34 = .ok (.istore_n 2, 1) := by decide +kernel
theorem dX4_perform_35 : decode cX4_perform 35 = .ok (.iload_n 2, 1) := by decide +kernel
theorem dX4_perform_36 : decode cX4_perform 36 = .ok (.iload_n 1, 1) := by decide +kernel
theorem dX4_perform_37 : decode cX4_perform 37 = .ok (.if_icmp .ge 42, 3) := by decide +kernel
theorem dX4_perform_40 : decode cX4_perform 40 = .ok (.aload_n 0, 1) := by decide +kernel
theorem dX4_perform_41 : decode cX4_perform 41 = .ok (.iconst 1, 1) := by decide +kernel
theorem dX4_perform_42 : decode cX4_perform 42 = .ok (.invokevirtual 127, 3) := by decide +kernel
theorem dX4_perform_45 : decode cX4_perform 45 = .ok (.istore_n 3, 1) := by decide +kernel
theorem dX4_perform_46 : decode cX4_perform 46 = .ok (.iload_n 3, 1) := by decide +kernel
theorem dX4_perform_47 : decode cX4_perform 47 = .ok (.ifCond .ge 16, 3) := by decide +kernel
theorem dX4_perform_50 : decode cX4_perform 50 = .ok (.aload_n 0, 1) := by decide +kernel
theorem dX4_perform_51 : decode cX4_perform 51 = .ok (.getfield 13, 3) := by decide +kernel
theorem dX4_perform_54 : decode cX4_perform 54 = .ok (.aload_n 0, 1) := by decide +kernel
theorem dX4_perform_55 : decode cX4_perform 55 = .ok (.getfield 7, 3) := by decide +kernel
theorem dX4_perform_58 : decode cX4_perform 58 = .ok (.invokestatic 94, 3) := by decide +kernel
theorem dX4_perform_61 : decode cX4_perform 61 = .ok (.iload_n 3, 1) := by decide +kernel
theorem dX4_perform_62 : decode cX4_perform 62 = .ok (.ireturn, 1) := by decide +kernel
theorem dX4_perform_63 : decode cX4_perform 63 = .ok (.aload_n 0, 1) := by decide +kernel
theorem dX4_perform_64 : decode cX4_perform 64 = .ok (.dup, 1) := by decide +kernel
theorem dX4_perform_65 : decode cX4_perform 65 = .ok (.getfield 115, 3) := by decide +kernel
theorem dX4_perform_68 : decode cX4_perform 68 = .ok (.iconst 1, 1) := by decide +kernel
theorem dX4_perform_69 : decode cX4_perform 69 = .ok (.iadd, 1) := by decide +kernel
theorem dX4_perform_70 : decode cX4_perform 70 = .ok (.putfield 115, 3) := by decide +kernel
theorem dX4_perform_73 : decode cX4_perform 73 = .ok (.iinc 2 1, 3) := by decide +kernel
theorem dX4_perform_76 : decode cX4_perform 76 = .ok (.goto (-41), 3) := by decide +kernel
theorem dX4_perform_79 : decode cX4_perform 79 = .ok (.aload_n 0, 1) := by decide +kernel
theorem dX4_perform_80 : decode cX4_perform 80 = .ok (.aload_n 0, 1) := by decide +kernel
theorem dX4_perform_81 : decode cX4_perform 81 = .ok (.getfield 13, 3) := by decide +kernel
theorem dX4_perform_84 : decode cX4_perform 84 = .ok (.invokevirtual 84, 3) := by decide +kernel
theorem dX4_perform_87 : decode cX4_perform 87 = .ok (.iload_n 1, 1) := by decide +kernel
theorem dX4_perform_88 : decode cX4_perform 88 = .ok (.ireturn, 1) := by decide +kernel
theorem dX4_type_0 : decode cX4_type 0 = .ok (.aload_n 0, 1) := by decide +kernel
theorem dX4_type_1 : decode cX4_type 1 = .ok (.getfield 118, 3) := by decide +kernel
theorem dX4_type_4 : decode cX4_type 4 = .ok (.bipush 60, 2) := by decide +kernel
theorem dX4_type_6 : decode cX4_type 6 = .ok (.if_icmp .ne 6, 3) := by decide +kernel
theorem dX4_type_9 : decode cX4_type 9 = .ok (.bipush (-3), 2) := by decide +kernel
theorem dX4_type_11 : decode cX4_type 11 = .ok (.ireturn, 1) := by decide +kernel
theorem dX4_type_12 : decode cX4_type 12 = .ok (.aload_n 0, 1) := by decide +kernel
theorem dX4_type_13 : decode cX4_type 13 = .ok (.getfield 25, 3) := by decide +kernel
theorem dX4_type_16 : decode cX4_type 16 = .ok (.aload_n 0, 1) := by decide +kernel
theorem dX4_type_17 : decode cX4_type 17 = .ok (.getfield 118, 3) := by decide +kernel
theorem dX4_type_20 : decode cX4_type 20 = .ok (.iload_n 1, 1) := by decide +kernel
theorem dX4_type_21 : decode cX4_type 21 = .ok (.iastore, 1) := by decide +kernel
theorem dX4_type_22 : decode cX4_type 22 = .ok (.aload_n 0, 1) := by decide +kernel
theorem dX4_type_23 : decode cX4_type 23 = .ok (.dup, 1) := by decide +kernel
theorem dX4_type_24 : decode cX4_type 24 = .ok (.getfield 118, 3) := by decide +kernel
theorem dX4_type_27 : decode cX4_type 27 = .ok (.iconst 1, 1) := by decide +kernel
theorem dX4_type_28 : decode cX4_type 28 = .ok (.iadd, 1) := by decide +kernel
theorem dX4_type_29 : decode cX4_type 29 = .ok (.putfield 118, 3) := by decide +kernel
theorem dX4_type_32 : decode cX4_type 32 = .ok (.aload_n 0, 1) := by decide +kernel
theorem dX4_type_33 : decode cX4_type 33 = .ok (.getfield 118, 3) := by decide +kernel
theorem dX4_type_36 : decode cX4_type 36 = .ok (.ireturn, 1) := by decide +kernel
theorem dX4_clearText_0 : decode cX4_clearText 0 = .ok (.aload_n 0, 1) := by decide +kernel
theorem dX4_clearText_1 : decode cX4_clearText 1 = .ok (.getfield 118, 3) := by decide +kernel
theorem dX4_clearText_4 : decode cX4_clearText 4 = .ok (.istore_n 1, 1) := by decide +kernel
theorem dX4_clearText_5 : decode cX4_clearText 5 = .ok (.aload_n 0, 1) := by decide +kernel
theorem dX4_clearText_6 : decode cX4_clearText 6 = .ok (.iconst 0, 1) := by decide +kernel
theorem dX4_clearText_7 : decode cX4_clearText 7 = .ok (.putfield 118, 3) := by decide +kernel
theorem dX4_clearText_10 : decode cX4_clearText 10 = .ok (.iload_n 1, 1) := by decide +kernel
theorem dX4_clearText_11 : decode cX4_clearText 11 = .ok (.ireturn, 1) := by decide +kernel
theorem dX4_undo_0 : decode cX4_undo 0 = .ok (.aload_n 0, 1) := by decide +kernel
theorem dX4_undo_1 : decode cX4_undo 1 = .ok (.getfield 28, 3) := by decide +kernel
theorem dX4_undo_4 : decode cX4_undo 4 = .ok (.ifCond .ne 6, 3) := by decide +kernel
theorem dX4_undo_7 : decode cX4_undo 7 = .ok (.bipush (-5), 2) := by decide +kernel
theorem dX4_undo_9 : decode cX4_undo 9 = .ok (.ireturn, 1) := by decide +kernel
theorem dX4_undo_10 : decode cX4_undo 10 = .ok (.aload_n 0, 1) := by decide +kernel
theorem dX4_undo_11 : decode cX4_undo 11 = .ok (.dup, 1) := by decide +kernel
theorem dX4_undo_12 : decode cX4_undo 12 = .ok (.getfield 28, 3) := by decide +kernel
theorem dX4_undo_15 : decode cX4_undo 15 = .ok (.iconst 1, 1) := by decide +kernel
theorem dX4_undo_16 : decode cX4_undo 16 = .ok (.isub, 1) := by decide +kernel
theorem dX4_undo_17 : decode cX4_undo 17 = .ok (.putfield 28, 3) := by decide +kernel
theorem dX4_undo_20 : decode cX4_undo 20 = .ok (.iconst 0, 1) := by decide +kernel
theorem dX4_undo_21 : decode cX4_undo 21 = .ok (.istore_n 1, 1) := by decide +kernel
theorem dX4_undo_22 : decode cX4_undo 22 = .ok (.iload_n 1, 1) := by decide +kernel
theorem dX4_undo_23 : decode cX4_undo 23 = .ok (.sipush 276, 3) := by decide +kernel
theorem dX4_undo_26 : decode cX4_undo 26 = .ok (.if_icmp .ge 30, 3) := by decide +kernel
theorem dX4_undo_29 : decode cX4_undo 29 = .ok (.aload_n 0, 1) := by decide +kernel
theorem dX4_undo_30 : decode cX4_undo 30 = .ok (.getfield 7, 3) := by decide +kernel
theorem dX4_undo_33 : decode cX4_undo 33 = .ok (.iload_n 1, 1) := by decide +kernel
theorem dX4_undo_34 : decode cX4_undo 34 = .ok (.aload_n 0, 1) := by decide +kernel
theorem dX4_undo_35 : decode cX4_undo 35 = .ok (.getfield 22, 3) := by decide +kernel
theorem dX4_undo_38 : decode cX4_undo 38 = .ok (.sipush 276, 3) := by decide +kernel
theorem dX4_undo_41 : decode cX4_undo 41 = .ok (.aload_n 0, 1) := by decide +kernel
theorem dX4_undo_42 : decode cX4_undo 42 = .ok (.getfield 28, 3) := by decide +kernel
theorem dX4_undo_45 : decode cX4_undo 45 = .ok (.imul, 1) := by decide +kernel
theorem dX4_undo_46 : decode cX4_undo 46 = .ok (.iload_n 1, 1) := by decide +kernel
theorem dX4_undo_47 : decode cX4_undo 47 = .ok (.iadd, 1) := by decide +kernel
theorem dX4_undo_48 : decode cX4_undo 48 = .ok (.iaload, 1) := by decide +kernel
theorem dX4_undo_49 : decode cX4_undo 49 = .ok (.iastore, 1) := by decide +kernel
theorem dX4_undo_50 : decode cX4_undo 50 = .ok (.iinc 1 1, 3) := by decide +kernel
theorem dX4_undo_53 : decode cX4_undo 53 = .ok (.goto (-31), 3) := by decide +kernel
theorem dX4_undo_56 : decode cX4_undo 56 = .ok (.aload_n 0, 1) := by decide +kernel
theorem dX4_undo_57 : decode cX4_undo 57 = .ok (.getfield 28, 3) := by decide +kernel
theorem dX4_undo_60 : decode cX4_undo 60 = .ok (.ireturn, 1) := by decide +kernel
set_option maxRecDepth 20000 in
theorem ggX4_keep_X4_copies : GoodIn wsX4_keep wsX4_copies := goodIn_r _ [7] (by decide +kernel) (by decide +kernel)
set_option maxRecDepth 20000 in
theorem gX4_keep_X4_copies : GoodIn wsX4_keep (va_wsS RX4 94 yX4_copies wsX4_copies) := goodIn_app (goodIn_of _ (by decide +kernel)) ggX4_keep_X4_copies
theorem dX4_keep_0 : decode cX4_keep 0 = .ok (.aload_n 0, 1) := by decide +kernel
theorem dX4_keep_1 : decode cX4_keep 1 = .ok (.getfield 7, 3) := by decide +kernel
theorem dX4_keep_4 : decode cX4_keep 4 = .ok (.aload_n 0, 1) := by decide +kernel
theorem dX4_keep_5 : decode cX4_keep 5 = .ok (.getfield 19, 3) := by decide +kernel
theorem dX4_keep_8 : decode cX4_keep 8 = .ok (.invokestatic 94, 3) := by decide +kernel
theorem dX4_keep_11 : decode cX4_keep 11 = .ok (.aload_n 0, 1) := by decide +kernel
theorem dX4_keep_12 : decode cX4_keep 12 = .ok (.iconst 1, 1) := by decide +kernel
theorem dX4_keep_13 : decode cX4_keep 13 = .ok (.putfield 135, 3) := by decide +kernel
theorem dX4_keep_16 : decode cX4_keep 16 = .ok (.aload_n 0, 1) := by decide +kernel
theorem dX4_keep_17 : decode cX4_keep 17 = .ok (.getfield 7, 3) := by decide +kernel
theorem dX4_keep_20 : decode cX4_keep 20 = .ok (.iconst 3, 1) := by decide +kernel
theorem dX4_keep_21 : decode cX4_keep 21 = .ok (.iaload, 1) := by decide +kernel
theorem dX4_keep_22 : decode cX4_keep 22 = .ok (.ireturn, 1) := by decide +kernel
set_option maxRecDepth 20000 in
theorem ggX4_restore_X4_record : GoodIn wsX4_restore wsX4_record := goodIn_r _ [8, 9, 10, 14, 15, 16, 17, 18, 19, 20, 21, 22, 23] (by decide +kernel) (by decide +kernel)
set_option maxRecDepth 20000 in
theorem gX4_restore_X4_record : GoodIn wsX4_restore (wsV RX4 84 RX4 yX4_record wsX4_record) := goodIn_app (goodIn_of _ (by decide +kernel)) ggX4_restore_X4_record
set_option maxRecDepth 20000 in
theorem ggX4_restore_X4_copies : GoodIn wsX4_restore wsX4_copies := goodIn_r _ [13] (by decide +kernel) (by decide +kernel)
set_option maxRecDepth 20000 in
theorem gX4_restore_X4_copies : GoodIn wsX4_restore (va_wsS RX4 94 yX4_copies wsX4_copies) := goodIn_app (goodIn_of _ (by decide +kernel)) ggX4_restore_X4_copies
theorem dX4_restore_0 : decode cX4_restore 0 = .ok (.aload_n 0, 1) := by decide +kernel
theorem dX4_restore_1 : decode cX4_restore 1 = .ok (.getfield 135, 3) := by decide +kernel
theorem dX4_restore_4 : decode cX4_restore 4 = .ok (.ifCond .ne 6, 3) := by decide +kernel
theorem dX4_restore_7 : decode cX4_restore 7 = .ok (.bipush (-5), 2) := by decide +kernel
theorem dX4_restore_9 : decode cX4_restore 9 = .ok (.ireturn, 1) := by decide +kernel
theorem dX4_restore_10 : decode cX4_restore 10 = .ok (.aload_n 0, 1) := by decide +kernel
theorem dX4_restore_11 : decode cX4_restore 11 = .ok (.aload_n 0, 1) := by decide +kernel
theorem dX4_restore_12 : decode cX4_restore 12 = .ok (.getfield 7, 3) := by decide +kernel
theorem dX4_restore_15 : decode cX4_restore 15 = .ok (.invokevirtual 84, 3) := by decide +kernel
theorem dX4_restore_18 : decode cX4_restore 18 = .ok (.aload_n 0, 1) := by decide +kernel
theorem dX4_restore_19 : decode cX4_restore 19 = .ok (.getfield 19, 3) := by decide +kernel
theorem dX4_restore_22 : decode cX4_restore 22 = .ok (.aload_n 0, 1) := by decide +kernel
theorem dX4_restore_23 : decode cX4_restore 23 = .ok (.getfield 7, 3) := by decide +kernel
theorem dX4_restore_26 : decode cX4_restore 26 = .ok (.invokestatic 94, 3) := by decide +kernel
theorem dX4_restore_29 : decode cX4_restore 29 = .ok (.aload_n 0, 1) := by decide +kernel
theorem dX4_restore_30 : decode cX4_restore 30 = .ok (.getfield 7, 3) := by decide +kernel
theorem dX4_restore_33 : decode cX4_restore 33 = .ok (.iconst 3, 1) := by decide +kernel
theorem dX4_restore_34 : decode cX4_restore 34 = .ok (.iaload, 1) := by decide +kernel
theorem dX4_restore_35 : decode cX4_restore 35 = .ok (.ireturn, 1) := by decide +kernel
set_option maxRecDepth 20000 in
theorem ggX4_address_X4_isAddress : GoodIn wsX4_address wsX4_isAddress := goodIn_r _ [6, 7, 8, 5, 9, 10, 11, 12, 13, 1, 49, 50, 51, 52, 53, 54, 55, 56, 57, 58] (by decide +kernel) (by decide +kernel)
set_option maxRecDepth 20000 in
theorem gX4_address_X4_isAddress : GoodIn wsX4_address (wsV RX4 40 RX4 yX4_isAddress wsX4_isAddress) := goodIn_app (goodIn_of _ (by decide +kernel)) ggX4_address_X4_isAddress
set_option maxRecDepth 20000 in
theorem ggX4_address_X4_in : GoodIn wsX4_address wsX4_in := goodIn_r _ [9] (by decide +kernel) (by decide +kernel)
set_option maxRecDepth 20000 in
theorem gX4_address_X4_in : GoodIn wsX4_address (va_wsS RX4 32 yX4_in wsX4_in) := goodIn_app (goodIn_of _ (by decide +kernel)) ggX4_address_X4_in
set_option maxRecDepth 20000 in
theorem ggX4_address_X4_isLost : GoodIn wsX4_address wsX4_isLost := goodIn_r _ [17, 1, 49, 50, 51, 52, 53, 54, 55, 56, 57, 58] (by decide +kernel) (by decide +kernel)
set_option maxRecDepth 20000 in
theorem gX4_address_X4_isLost : GoodIn wsX4_address (wsV RX4 75 RX4 yX4_isLost wsX4_isLost) := goodIn_app (goodIn_of _ (by decide +kernel)) ggX4_address_X4_isLost
set_option maxRecDepth 20000 in
theorem ggX4_address_X4_lends : GoodIn wsX4_address wsX4_lends := goodIn_r _ [21, 22, 23, 24, 5, 25, 26, 27, 28, 29, 1, 10, 11, 12, 13, 30, 31, 32, 33, 34, 35, 36, 37, 2, 3, 4, 6, 7, 8, 9, 38, 39, 40, 41, 49, 50, 51, 52, 53, 54, 55, 56, 57, 58] (by decide +kernel) (by decide +kernel)
set_option maxRecDepth 20000 in
theorem gX4_address_X4_lends : GoodIn wsX4_address (wsV RX4 68 RX4 yX4_lends wsX4_lends) := goodIn_app (goodIn_of _ (by decide +kernel)) ggX4_address_X4_lends
set_option maxRecDepth 20000 in
theorem ggX4_address_X4_steps : GoodIn wsX4_address wsX4_steps := goodIn_r _ [45, 1, 46, 47, 5, 48, 49, 50, 51, 52, 53, 54, 55, 56, 57, 58] (by decide +kernel) (by decide +kernel)
set_option maxRecDepth 20000 in
theorem gX4_address_X4_steps : GoodIn wsX4_address (wsV RX4 139 RX4 yX4_steps wsX4_steps) := goodIn_app (goodIn_of _ (by decide +kernel)) ggX4_address_X4_steps
theorem dX4_address_0 : decode cX4_address 0 = .ok (.aload_n 0, 1) := by decide +kernel
theorem dX4_address_1 : decode cX4_address 1 = .ok (.iload_n 1, 1) := by decide +kernel
theorem dX4_address_2 : decode cX4_address 2 = .ok (.invokevirtual 40, 3) := by decide +kernel
theorem dX4_address_5 : decode cX4_address 5 = .ok (.ifCond .ne 5, 3) := by decide +kernel
theorem dX4_address_8 : decode cX4_address 8 = .ok (.iconst (-1), 1) := by decide +kernel
theorem dX4_address_9 : decode cX4_address 9 = .ok (.ireturn, 1) := by decide +kernel
theorem dX4_address_10 : decode cX4_address 10 = .ok (.iload_n 2, 1) := by decide +kernel
theorem dX4_address_11 : decode cX4_address 11 = .ok (.iconst 0, 1) := by decide +kernel
theorem dX4_address_12 : decode cX4_address 12 = .ok (.iconst 5, 1) := by decide +kernel
theorem dX4_address_13 : decode cX4_address 13 = .ok (.invokestatic 32, 3) := by decide +kernel
theorem dX4_address_16 : decode cX4_address 16 = .ok (.ifCond .ne 6, 3) := by decide +kernel
theorem dX4_address_19 : decode cX4_address 19 = .ok (.bipush (-2), 2) := by decide +kernel
theorem dX4_address_21 : decode cX4_address 21 = .ok (.ireturn, 1) := by decide +kernel
theorem dX4_address_22 : decode cX4_address 22 = .ok (.aload_n 0, 1) := by decide +kernel
theorem dX4_address_23 : decode cX4_address 23 = .ok (.iload_n 1, 1) := by decide +kernel
theorem dX4_address_24 : decode cX4_address 24 = .ok (.invokevirtual 75, 3) := by decide +kernel
theorem dX4_address_27 : decode cX4_address 27 = .ok (.istore_n 3, 1) := by decide +kernel
theorem dX4_address_28 : decode cX4_address 28 = .ok (.iload_n 2, 1) := by decide +kernel
theorem dX4_address_29 : decode cX4_address 29 = .ok (.iconst 3, 1) := by decide +kernel
theorem dX4_address_30 : decode cX4_address 30 = .ok (.if_icmp .ne 9, 3) := by decide +kernel
theorem dX4_address_33 : decode cX4_address 33 = .ok (.aload_n 0, 1) := by decide +kernel
theorem dX4_address_34 : decode cX4_address 34 = .ok (.iload_n 1, 1) := by decide +kernel
theorem dX4_address_35 : decode cX4_address 35 = .ok (.invokevirtual 68, 3) := by decide +kernel
theorem dX4_address_38 : decode cX4_address 38 = .ok (.ireturn, 1) := by decide +kernel
theorem dX4_address_39 : decode cX4_address 39 = .ok (.iload_n 2, 1) := by decide +kernel
theorem dX4_address_40 : decode cX4_address 40 = .ok (.iconst 5, 1) := by decide +kernel
theorem dX4_address_41 : decode cX4_address 41 = .ok (.if_icmp .ne 14, 3) := by decide +kernel
theorem dX4_address_44 : decode cX4_address 44 = .ok (.aload_n 0, 1) := by decide +kernel
theorem dX4_address_45 : decode cX4_address 45 = .ok (.getfield 7, 3) := by decide +kernel
theorem dX4_address_48 : decode cX4_address 48 = .ok (.sipush 212, 3) := by decide +kernel
theorem dX4_address_51 : decode cX4_address 51 = .ok (.iload_n 1, 1) := by decide +kernel
theorem dX4_address_52 : decode cX4_address 52 = .ok (.iadd, 1) := by decide +kernel
theorem dX4_address_53 : decode cX4_address 53 = .ok (.iaload, 1) := by decide +kernel
theorem dX4_address_54 : decode cX4_address 54 = .ok (.ireturn, 1) := by decide +kernel
theorem dX4_address_55 : decode cX4_address 55 = .ok (.iload_n 2, 1) := by decide +kernel
theorem dX4_address_56 : decode cX4_address 56 = .ok (.iconst 2, 1) := by decide +kernel
theorem dX4_address_57 : decode cX4_address 57 = .ok (.if_icmp .ne 27, 3) := by decide +kernel
theorem dX4_address_60 : decode cX4_address 60 = .ok (.iload_n 3, 1) := by decide +kernel
theorem dX4_address_61 : decode cX4_address 61 = .ok (.ifCond .ne 21, 3) := by decide +kernel
theorem dX4_address_64 : decode cX4_address 64 = .ok (.aload_n 0, 1) := by decide +kernel
theorem dX4_address_65 : decode cX4_address 65 = .ok (.getfield 7, 3) := by decide +kernel
theorem dX4_address_68 : decode cX4_address 68 = .ok (.sipush 148, 3) := by decide +kernel
theorem dX4_address_71 : decode cX4_address 71 = .ok (.iload_n 1, 1) := by decide +kernel
theorem dX4_address_72 : decode cX4_address 72 = .ok (.iadd, 1) := by decide +kernel
theorem dX4_address_73 : decode cX4_address 73 = .ok (.iaload, 1) := by decide +kernel
theorem dX4_address_74 : decode cX4_address 74 = .ok (.iload_n 1, 1) := by decide +kernel
theorem dX4_address_75 : decode cX4_address 75 = .ok (.if_icmp .eq 7, 3) := by decide +kernel
theorem dX4_address_78 : decode cX4_address 78 = .ok (.iconst 1, 1) := by decide +kernel
theorem dX4_address_79 : decode cX4_address 79 = .ok (.goto 4, 3) := by decide +kernel
theorem dX4_address_82 : decode cX4_address 82 = .ok (.iconst 0, 1) := by decide +kernel
theorem dX4_address_83 : decode cX4_address 83 = .ok (.ireturn, 1) := by decide +kernel
theorem dX4_address_84 : decode cX4_address 84 = .ok (.iload_n 3, 1) := by decide +kernel
theorem dX4_address_85 : decode cX4_address 85 = .ok (.ifCond .eq 8, 3) := by decide +kernel
theorem dX4_address_88 : decode cX4_address 88 = .ok (.bipush (-5), 2) := by decide +kernel
theorem dX4_address_90 : decode cX4_address 90 = .ok (.goto 42, 3) := by decide +kernel
theorem dX4_address_93 : decode cX4_address 93 = .ok (.iload_n 2, 1) := by decide +kernel
theorem dX4_address_94 : decode cX4_address 94 = .ok (.ifCond .ne 15, 3) := by decide +kernel
theorem dX4_address_97 : decode cX4_address 97 = .ok (.aload_n 0, 1) := by decide +kernel
theorem dX4_address_98 : decode cX4_address 98 = .ok (.getfield 7, 3) := by decide +kernel
theorem dX4_address_101 : decode cX4_address 101 = .ok (.bipush 84, 2) := by decide +kernel
theorem dX4_address_103 : decode cX4_address 103 = .ok (.iload_n 1, 1) := by decide +kernel
theorem dX4_address_104 : decode cX4_address 104 = .ok (.iadd, 1) := by decide +kernel
