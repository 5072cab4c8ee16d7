theorem dX4_address_105 : decode cX4_address 105 = .ok (.iaload, 1) := by decide +kernel
theorem dX4_address_106 : decode cX4_address 106 = .ok (.goto 26, 3) := by decide +kernel
theorem dX4_address_109 : decode cX4_address 109 = .ok (.iload_n 2, 1) := by decide +kernel
theorem dX4_address_110 : decode cX4_address 110 = .ok (.iconst 1, 1) := by decide +kernel
theorem dX4_address_111 : decode cX4_address 111 = .ok (.if_icmp .ne 16, 3) := by decide +kernel
theorem dX4_address_114 : decode cX4_address 114 = .ok (.aload_n 0, 1) := by decide +kernel
theorem dX4_address_115 : decode cX4_address 115 = .ok (.getfield 7, 3) := by decide +kernel
theorem dX4_address_118 : decode cX4_address 118 = .ok (.sipush 148, 3) := by decide +kernel
theorem dX4_address_121 : decode cX4_address 121 = .ok (.iload_n 1, 1) := by decide +kernel
theorem dX4_address_122 : decode cX4_address 122 = .ok (.iadd, 1) := by decide +kernel
theorem dX4_address_123 : decode cX4_address 123 = .ok (.iaload, 1) := by decide +kernel
theorem dX4_address_124 : decode cX4_address 124 = .ok (.goto 8, 3) := by decide +kernel
theorem dX4_address_127 : decode cX4_address 127 = .ok (.aload_n 0, 1) := by decide +kernel
theorem dX4_address_128 : decode cX4_address 128 = .ok (.iload_n 1, 1) := by decide +kernel
theorem dX4_address_129 : decode cX4_address 129 = .ok (.invokevirtual 139, 3) := by decide +kernel
theorem dX4_address_132 : decode cX4_address 132 = .ok (.ireturn, 1) := by decide +kernel
set_option maxRecDepth 20000 in
theorem ggX4_sector_X4_in : GoodIn wsX4_sector wsX4_in := goodIn_r _ [5] (by decide +kernel) (by decide +kernel)
set_option maxRecDepth 20000 in
theorem gX4_sector_X4_in : GoodIn wsX4_sector (va_wsS RX4 32 yX4_in wsX4_in) := goodIn_app (goodIn_of _ (by decide +kernel)) ggX4_sector_X4_in
set_option maxRecDepth 20000 in
theorem ggX4_sector_X4_state : GoodIn wsX4_sector wsX4_state := goodIn_r _ [9, 1, 26, 27, 28, 29, 30, 31, 32, 33, 34, 35] (by decide +kernel) (by decide +kernel)
set_option maxRecDepth 20000 in
theorem gX4_sector_X4_state : GoodIn wsX4_sector (wsV RX4 43 RX4 yX4_state wsX4_state) := goodIn_app (goodIn_of _ (by decide +kernel)) ggX4_sector_X4_state
set_option maxRecDepth 20000 in
theorem ggX4_sector_X4_isSpare : GoodIn wsX4_sector wsX4_isSpare := goodIn_r _ [13, 1, 26, 27, 28, 29, 30, 31, 32, 33, 34, 35] (by decide +kernel) (by decide +kernel)
set_option maxRecDepth 20000 in
theorem gX4_sector_X4_isSpare : GoodIn wsX4_sector (wsV RX4 36 RX4 yX4_isSpare wsX4_isSpare) := goodIn_app (goodIn_of _ (by decide +kernel)) ggX4_sector_X4_isSpare
set_option maxRecDepth 20000 in
theorem ggX4_sector_X4_serves : GoodIn wsX4_sector wsX4_serves := goodIn_r _ [17, 1, 18, 19, 20, 4, 21, 2, 3, 5, 10, 11, 12, 13, 26, 27, 28, 29, 30, 31, 32, 33, 34, 35] (by decide +kernel) (by decide +kernel)
set_option maxRecDepth 20000 in
theorem gX4_sector_X4_serves : GoodIn wsX4_sector (wsV RX4 47 RX4 yX4_serves wsX4_serves) := goodIn_app (goodIn_of _ (by decide +kernel)) ggX4_sector_X4_serves
set_option maxRecDepth 20000 in
theorem ggX4_sector_X4_isFree : GoodIn wsX4_sector wsX4_isFree := goodIn_r _ [25, 1, 10, 11, 12, 4, 13, 6, 7, 8, 9, 14, 15, 16, 17, 18, 19, 20, 21, 2, 3, 5, 26, 27, 28, 29, 30, 31, 32, 33, 34, 35] (by decide +kernel) (by decide +kernel)
set_option maxRecDepth 20000 in
theorem gX4_sector_X4_isFree : GoodIn wsX4_sector (wsV RX4 50 RX4 yX4_isFree wsX4_isFree) := goodIn_app (goodIn_of _ (by decide +kernel)) ggX4_sector_X4_isFree
theorem dX4_sector_0 : decode cX4_sector 0 = .ok (.iload_n 1, 1) := by decide +kernel
theorem dX4_sector_1 : decode cX4_sector 1 = .ok (.iconst 0, 1) := by decide +kernel
theorem dX4_sector_2 : decode cX4_sector 2 = .ok (.bipush 63, 2) := by decide +kernel
theorem dX4_sector_4 : decode cX4_sector 4 = .ok (.invokestatic 32, 3) := by decide +kernel
theorem dX4_sector_7 : decode cX4_sector 7 = .ok (.ifCond .ne 5, 3) := by decide +kernel
theorem dX4_sector_10 : decode cX4_sector 10 = .ok (.iconst (-1), 1) := by decide +kernel
theorem dX4_sector_11 : decode cX4_sector 11 = .ok (.ireturn, 1) := by decide +kernel
theorem dX4_sector_12 : decode cX4_sector 12 = .ok (.iload_n 2, 1) := by decide +kernel
theorem dX4_sector_13 : decode cX4_sector 13 = .ok (.iconst 0, 1) := by decide +kernel
theorem dX4_sector_14 : decode cX4_sector 14 = .ok (.iconst 4, 1) := by decide +kernel
theorem dX4_sector_15 : decode cX4_sector 15 = .ok (.invokestatic 32, 3) := by decide +kernel
theorem dX4_sector_18 : decode cX4_sector 18 = .ok (.ifCond .ne 6, 3) := by decide +kernel
theorem dX4_sector_21 : decode cX4_sector 21 = .ok (.bipush (-2), 2) := by decide +kernel
theorem dX4_sector_23 : decode cX4_sector 23 = .ok (.ireturn, 1) := by decide +kernel
theorem dX4_sector_24 : decode cX4_sector 24 = .ok (.iload_n 2, 1) := by decide +kernel
theorem dX4_sector_25 : decode cX4_sector 25 = .ok (.iconst 2, 1) := by decide +kernel
theorem dX4_sector_26 : decode cX4_sector 26 = .ok (.if_icmp .ge 25, 3) := by decide +kernel
theorem dX4_sector_29 : decode cX4_sector 29 = .ok (.iload_n 2, 1) := by decide +kernel
theorem dX4_sector_30 : decode cX4_sector 30 = .ok (.ifCond .ne 15, 3) := by decide +kernel
theorem dX4_sector_33 : decode cX4_sector 33 = .ok (.aload_n 0, 1) := by decide +kernel
theorem dX4_sector_34 : decode cX4_sector 34 = .ok (.getfield 7, 3) := by decide +kernel
theorem dX4_sector_37 : decode cX4_sector 37 = .ok (.bipush 20, 2) := by decide +kernel
theorem dX4_sector_39 : decode cX4_sector 39 = .ok (.iload_n 1, 1) := by decide +kernel
theorem dX4_sector_40 : decode cX4_sector 40 = .ok (.iadd, 1) := by decide +kernel
theorem dX4_sector_41 : decode cX4_sector 41 = .ok (.iaload, 1) := by decide +kernel
theorem dX4_sector_42 : decode cX4_sector 42 = .ok (.goto 8, 3) := by decide +kernel
theorem dX4_sector_45 : decode cX4_sector 45 = .ok (.aload_n 0, 1) := by decide +kernel
theorem dX4_sector_46 : decode cX4_sector 46 = .ok (.iload_n 1, 1) := by decide +kernel
theorem dX4_sector_47 : decode cX4_sector 47 = .ok (.invokevirtual 43, 3) := by decide +kernel
theorem dX4_sector_50 : decode cX4_sector 50 = .ok (.ireturn, 1) := by decide +kernel
theorem dX4_sector_51 : decode cX4_sector 51 = .ok (.iload_n 2, 1) := by decide +kernel
theorem dX4_sector_52 : decode cX4_sector 52 = .ok (.iconst 2, 1) := by decide +kernel
theorem dX4_sector_53 : decode cX4_sector 53 = .ok (.if_icmp .ne 19, 3) := by decide +kernel
theorem dX4_sector_56 : decode cX4_sector 56 = .ok (.aload_n 0, 1) := by decide +kernel
theorem dX4_sector_57 : decode cX4_sector 57 = .ok (.iload_n 1, 1) := by decide +kernel
theorem dX4_sector_58 : decode cX4_sector 58 = .ok (.invokevirtual 36, 3) := by decide +kernel
theorem dX4_sector_61 : decode cX4_sector 61 = .ok (.ifCond .eq 7, 3) := by decide +kernel
theorem dX4_sector_64 : decode cX4_sector 64 = .ok (.iconst 1, 1) := by decide +kernel
theorem dX4_sector_65 : decode cX4_sector 65 = .ok (.goto 33, 3) := by decide +kernel
theorem dX4_sector_68 : decode cX4_sector 68 = .ok (.iconst 0, 1) := by decide +kernel
theorem dX4_sector_69 : decode cX4_sector 69 = .ok (.goto 29, 3) := by decide +kernel
theorem dX4_sector_72 : decode cX4_sector 72 = .ok (.iload_n 2, 1) := by decide +kernel
theorem dX4_sector_73 : decode cX4_sector 73 = .ok (.iconst 3, 1) := by decide +kernel
theorem dX4_sector_74 : decode cX4_sector 74 = .ok (.if_icmp .ne 11, 3) := by decide +kernel
theorem dX4_sector_77 : decode cX4_sector 77 = .ok (.aload_n 0, 1) := by decide +kernel
theorem dX4_sector_78 : decode cX4_sector 78 = .ok (.iload_n 1, 1) := by decide +kernel
theorem dX4_sector_79 : decode cX4_sector 79 = .ok (.invokevirtual 47, 3) := by decide +kernel
theorem dX4_sector_82 : decode cX4_sector 82 = .ok (.goto 16, 3) := by decide +kernel
theorem dX4_sector_85 : decode cX4_sector 85 = .ok (.aload_n 0, 1) := by decide +kernel
theorem dX4_sector_86 : decode cX4_sector 86 = .ok (.iload_n 1, 1) := by decide +kernel
theorem dX4_sector_87 : decode cX4_sector 87 = .ok (.invokevirtual 50, 3) := by decide +kernel
theorem dX4_sector_90 : decode cX4_sector 90 = .ok (.ifCond .eq 7, 3) := by decide +kernel
theorem dX4_sector_93 : decode cX4_sector 93 = .ok (.iconst 1, 1) := by decide +kernel
theorem dX4_sector_94 : decode cX4_sector 94 = .ok (.goto 4, 3) := by decide +kernel
theorem dX4_sector_97 : decode cX4_sector 97 = .ok (.iconst 0, 1) := by decide +kernel
theorem dX4_sector_98 : decode cX4_sector 98 = .ok (.ireturn, 1) := by decide +kernel
set_option maxRecDepth 20000 in
theorem ggX4_across_X4_isAddress : GoodIn wsX4_across wsX4_isAddress := goodIn_r _ [6, 7, 8, 5, 9, 10, 11, 12, 13, 1, 18, 19, 20, 21, 22, 23, 24, 25, 26, 27] (by decide +kernel) (by decide +kernel)
set_option maxRecDepth 20000 in
theorem gX4_across_X4_isAddress : GoodIn wsX4_across (wsV RX4 40 RX4 yX4_isAddress wsX4_isAddress) := goodIn_app (goodIn_of _ (by decide +kernel)) ggX4_across_X4_isAddress
set_option maxRecDepth 20000 in
theorem ggX4_across_X4_isLost : GoodIn wsX4_across wsX4_isLost := goodIn_r _ [17, 1, 18, 19, 20, 21, 22, 23, 24, 25, 26, 27] (by decide +kernel) (by decide +kernel)
set_option maxRecDepth 20000 in
theorem gX4_across_X4_isLost : GoodIn wsX4_across (wsV RX4 75 RX4 yX4_isLost wsX4_isLost) := goodIn_app (goodIn_of _ (by decide +kernel)) ggX4_across_X4_isLost
theorem dX4_across_0 : decode cX4_across 0 = .ok (.iconst 0, 1) := by decide +kernel
theorem dX4_across_1 : decode cX4_across 1 = .ok (.istore_n 3, 1) := by decide +kernel
theorem dX4_across_2 : decode cX4_across 2 = .ok (.iconst 0, 1) := by decide +kernel
theorem dX4_across_3 : decode cX4_across 3 = .ok (.istore 4, 2) := by decide +kernel
theorem dX4_across_5 : decode cX4_across 5 = .ok (.iload 4, 2) := by decide +kernel
theorem dX4_across_7 : decode cX4_across 7 = .ok (.bipush 64, 2) := by decide +kernel
theorem dX4_across_9 : decode cX4_across 9 = .ok (.if_icmp .ge 99, 3) := by decide +kernel
theorem dX4_across_12 : decode cX4_across 12 = .ok (.aload_n 0, 1) := by decide +kernel
theorem dX4_across_13 : decode cX4_across 13 = .ok (.iload 4, 2) := by decide +kernel
theorem dX4_across_15 : decode cX4_across 15 = .ok (.invokevirtual 40, 3) := by decide +kernel
theorem dX4_across_18 : decode cX4_across 18 = .ok (.ifCond .eq 38, 3) := by decide +kernel
theorem dX4_across_21 : decode cX4_across 21 = .ok (.aload_n 0, 1) := by decide +kernel
theorem dX4_across_22 : decode cX4_across 22 = .ok (.iload 4, 2) := by decide +kernel
theorem dX4_across_24 : decode cX4_across 24 = .ok (.invokevirtual 75, 3) := by decide +kernel
theorem dX4_across_27 : decode cX4_across 27 = .ok (.ifCond .ne 29, 3) := by decide +kernel
theorem dX4_across_30 : decode cX4_across 30 = .ok (.aload_n 0, 1) := by decide +kernel
theorem dX4_across_31 : decode cX4_across 31 = .ok (.getfield 7, 3) := by decide +kernel
theorem dX4_across_34 : decode cX4_across 34 = .ok (.sipush 148, 3) := by decide +kernel
theorem dX4_across_37 : decode cX4_across 37 = .ok (.iload 4, 2) := by decide +kernel
theorem dX4_across_39 : decode cX4_across 39 = .ok (.iadd, 1) := by decide +kernel
theorem dX4_across_40 : decode cX4_across 40 = .ok (.iaload, 1) := by decide +kernel
theorem dX4_across_41 : decode cX4_across 41 = .ok (.bipush 16, 2) := by decide +kernel
theorem dX4_across_43 : decode cX4_across 43 = .ok (.idiv, 1) := by decide +kernel
theorem dX4_across_44 : decode cX4_across 44 = .ok (.iload 4, 2) := by decide +kernel
theorem dX4_across_46 : decode cX4_across 46 = .ok (.bipush 16, 2) := by decide +kernel
theorem dX4_across_48 : decode cX4_across 48 = .ok (.idiv, 1) := by decide +kernel
theorem dX4_across_49 : decode cX4_across 49 = .ok (.if_icmp .eq 7, 3) := by decide +kernel
theorem dX4_across_52 : decode cX4_across 52 = .ok (.iconst 1, 1) := by decide +kernel
theorem dX4_across_53 : decode cX4_across 53 = .ok (.goto 4, 3) := by decide +kernel
theorem dX4_across_56 : decode cX4_across 56 = .ok (.iconst 0, 1) := by decide +kernel
theorem dX4_across_57 : decode cX4_across 57 = .ok (.istore 5, 2) := by decide +kernel
theorem dX4_across_59 : decode cX4_across 59 = .ok (.iload_n 3, 1) := by decide +kernel
theorem dX4_across_60 : decode cX4_across 60 = .ok (.iload 5, 2) := by decide +kernel
theorem dX4_across_62 : decode cX4_across 62 = .ok (.ifCond .eq 37, 3) := by decide +kernel
theorem dX4_across_65 : decode cX4_across 65 = .ok (.iload_n 2, 1) := by decide +kernel
theorem dX4_across_66 : decode cX4_across 66 = .ok (.ifCond .ne 20, 3) := by decide +kernel
theorem dX4_across_69 : decode cX4_across 69 = .ok (.aload_n 0, 1) := by decide +kernel
theorem dX4_across_70 : decode cX4_across 70 = .ok (.getfield 7, 3) := by decide +kernel
theorem dX4_across_73 : decode cX4_across 73 = .ok (.sipush 148, 3) := by decide +kernel
theorem dX4_across_76 : decode cX4_across 76 = .ok (.iload 4, 2) := by decide +kernel
theorem dX4_across_78 : decode cX4_across 78 = .ok (.iadd, 1) := by decide +kernel
theorem dX4_across_79 : decode cX4_across 79 = .ok (.iaload, 1) := by decide +kernel
theorem dX4_across_80 : decode cX4_across 80 = .ok (.bipush 16, 2) := by decide +kernel
theorem dX4_across_82 : decode cX4_across 82 = .ok (.idiv, 1) := by decide +kernel
theorem dX4_across_83 : decode cX4_across 83 = .ok (.goto 8, 3) := by decide +kernel
theorem dX4_across_86 : decode cX4_across 86 = .ok (.iload 4, 2) := by decide +kernel
theorem dX4_across_88 : decode cX4_across 88 = .ok (.bipush 16, 2) := by decide +kernel
theorem dX4_across_90 : decode cX4_across 90 = .ok (.idiv, 1) := by decide +kernel
theorem dX4_across_91 : decode cX4_across 91 = .ok (.iload_n 1, 1) := by decide +kernel
theorem dX4_across_92 : decode cX4_across 92 = .ok (.if_icmp .ne 7, 3) := by decide +kernel
theorem dX4_across_95 : decode cX4_across 95 = .ok (.iconst 1, 1) := by decide +kernel
theorem dX4_across_96 : decode cX4_across 96 = .ok (.goto 4, 3) := by decide +kernel
theorem dX4_across_99 : decode cX4_across 99 = .ok (.iconst 0, 1) := by decide +kernel
theorem dX4_across_100 : decode cX4_across 100 = .ok (.iadd, 1) := by decide +kernel
theorem dX4_across_101 : decode cX4_across 101 = .ok (.istore_n 3, 1) := by decide +kernel
theorem dX4_across_102 : decode cX4_across 102 = .ok (.iinc 4 1, 3) := by decide +kernel
theorem dX4_across_105 : decode cX4_across 105 = .ok (.goto (-100), 3) := by decide +kernel
theorem dX4_across_108 : decode cX4_across 108 = .ok (.iload_n 3, 1) := by decide +kernel
theorem dX4_across_109 : decode cX4_across 109 = .ok (.ireturn, 1) := by decide +kernel
set_option maxRecDepth 20000 in
theorem ggX4_inState_X4_state : GoodIn wsX4_inState wsX4_state := goodIn_r _ [5, 6, 7, 8, 9, 10, 11, 12, 13, 14, 15, 16] (by decide +kernel) (by decide +kernel)
set_option maxRecDepth 20000 in
theorem gX4_inState_X4_state : GoodIn wsX4_inState (wsV RX4 43 RX4 yX4_state wsX4_state) := goodIn_app (goodIn_of _ (by decide +kernel)) ggX4_inState_X4_state
theorem dX4_inState_0 : decode cX4_inState 0 = .ok (.iconst 0, 1) := by decide +kernel
theorem dX4_inState_1 : decode cX4_inState 1 = .ok (.istore_n 3, 1) := by decide +kernel
theorem dX4_inState_2 : decode cX4_inState 2 = .ok (.iconst 0, 1) := by decide +kernel
theorem dX4_inState_3 : decode cX4_inState 3 = .ok (.istore 4, 2) := by decide +kernel
theorem dX4_inState_5 : decode cX4_inState 5 = .ok (.iload 4, 2) := by decide +kernel
theorem dX4_inState_7 : decode cX4_inState 7 = .ok (.bipush 16, 2) := by decide +kernel
theorem dX4_inState_9 : decode cX4_inState 9 = .ok (.if_icmp .ge 32, 3) := by decide +kernel
theorem dX4_inState_12 : decode cX4_inState 12 = .ok (.iload_n 3, 1) := by decide +kernel
theorem dX4_inState_13 : decode cX4_inState 13 = .ok (.aload_n 0, 1) := by decide +kernel
theorem dX4_inState_14 : decode cX4_inState 14 = .ok (.bipush 16, 2) := by decide +kernel
theorem dX4_inState_16 : decode cX4_inState 16 = .ok (.iload_n 1, 1) := by decide +kernel
theorem dX4_inState_17 : decode cX4_inState 17 = .ok (.imul, 1) := by decide +kernel
theorem dX4_inState_18 : decode cX4_inState 18 = .ok (.iload 4, 2) := by decide +kernel
theorem dX4_inState_20 : decode cX4_inState 20 = .ok (.iadd, 1) := by decide +kernel
theorem dX4_inState_21 : decode cX4_inState 21 = .ok (.invokevirtual 43, 3) := by decide +kernel
theorem dX4_inState_24 : decode cX4_inState 24 = .ok (.iload_n 2, 1) := by decide +kernel
theorem dX4_inState_25 : decode cX4_inState 25 = .ok (.if_icmp .ne 7, 3) := by decide +kernel
theorem dX4_inState_28 : decode cX4_inState 28 = .ok (.iconst 1, 1) := by decide +kernel
theorem dX4_inState_29 : decode cX4_inState 29 = .ok (.goto 4, 3) := by decide +kernel
theorem dX4_inState_32 : decode cX4_inState 32 = .ok (.iconst 0, 1) := by decide +kernel
theorem dX4_inState_33 : decode cX4_inState 33 = .ok (.iadd, 1) := by decide +kernel
theorem dX4_inState_34 : decode cX4_inState 34 = .ok (.istore_n 3, 1) := by decide +kernel
theorem dX4_inState_35 : decode cX4_inState 35 = .ok (.iinc 4 1, 3) := by decide +kernel
theorem dX4_inState_38 : decode cX4_inState 38 = .ok (.goto (-33), 3) := by decide +kernel
theorem dX4_inState_41 : decode cX4_inState 41 = .ok (.iload_n 3, 1) := by decide +kernel
theorem dX4_inState_42 : decode cX4_inState 42 = .ok (.ireturn, 1) := by decide +kernel
set_option maxRecDepth 20000 in
theorem ggX4_head_X4_isHead : GoodIn wsX4_head wsX4_isHead := goodIn_r _ [5, 6, 7, 4, 8] (by decide +kernel) (by decide +kernel)
set_option maxRecDepth 20000 in
theorem gX4_head_X4_isHead : GoodIn wsX4_head (va_wsS RX4 88 yX4_isHead wsX4_isHead) := goodIn_app (goodIn_of _ (by decide +kernel)) ggX4_head_X4_isHead
set_option maxRecDepth 20000 in
theorem ggX4_head_X4_in : GoodIn wsX4_head wsX4_in := goodIn_r _ [8] (by decide +kernel) (by decide +kernel)
set_option maxRecDepth 20000 in
theorem gX4_head_X4_in : GoodIn wsX4_head (va_wsS RX4 32 yX4_in wsX4_in) := goodIn_app (goodIn_of _ (by decide +kernel)) ggX4_head_X4_in
set_option maxRecDepth 20000 in
theorem ggX4_head_X4_frees : GoodIn wsX4_head wsX4_frees := goodIn_r _ [12, 13, 14, 15, 4, 16, 1, 17, 18, 19, 20, 21, 22, 23, 24, 25, 26, 27, 28, 29, 30, 31, 32, 6, 7, 8, 53, 54, 55, 56, 57, 58, 59, 60, 61, 62] (by decide +kernel) (by decide +kernel)
set_option maxRecDepth 20000 in
theorem gX4_head_X4_frees : GoodIn wsX4_head (wsV RX4 56 RX4 yX4_frees wsX4_frees) := goodIn_app (goodIn_of _ (by decide +kernel)) ggX4_head_X4_frees
set_option maxRecDepth 20000 in
theorem ggX4_head_X4_across : GoodIn wsX4_head wsX4_across := goodIn_r _ [36, 1, 29, 30, 31, 4, 32, 6, 7, 8, 17, 18, 19, 20, 37, 38, 39, 40, 53, 54, 55, 56, 57, 58, 59, 60, 61, 62] (by decide +kernel) (by decide +kernel)
set_option maxRecDepth 20000 in
theorem gX4_head_X4_across : GoodIn wsX4_head (wsV RX4 142 RX4 yX4_across wsX4_across) := goodIn_app (goodIn_of _ (by decide +kernel)) ggX4_head_X4_across
set_option maxRecDepth 20000 in
theorem ggX4_head_X4_lost : GoodIn wsX4_head wsX4_lost := goodIn_r _ [44, 29, 30, 31, 4, 32, 6, 7, 8, 17, 18, 19, 20, 1, 37, 38, 39, 40, 53, 54, 55, 56, 57, 58, 59, 60, 61, 62] (by decide +kernel) (by decide +kernel)
set_option maxRecDepth 20000 in
theorem gX4_head_X4_lost : GoodIn wsX4_head (wsV RX4 109 RX4 yX4_lost wsX4_lost) := goodIn_app (goodIn_of _ (by decide +kernel)) ggX4_head_X4_lost
set_option maxRecDepth 20000 in
theorem ggX4_head_X4_wear : GoodIn wsX4_head wsX4_wear := goodIn_r _ [48, 1, 53, 54, 55, 56, 57, 58, 59, 60, 61, 62] (by decide +kernel) (by decide +kernel)
set_option maxRecDepth 20000 in
theorem gX4_head_X4_wear : GoodIn wsX4_head (wsV RX4 91 RX4 yX4_wear wsX4_wear) := goodIn_app (goodIn_of _ (by decide +kernel)) ggX4_head_X4_wear
set_option maxRecDepth 20000 in
theorem ggX4_head_X4_inState : GoodIn wsX4_head wsX4_inState := goodIn_r _ [52, 21, 22, 23, 4, 24, 1, 53, 54, 55, 56, 57, 58, 59, 60, 61, 62] (by decide +kernel) (by decide +kernel)
set_option maxRecDepth 20000 in
theorem gX4_head_X4_inState : GoodIn wsX4_head (wsV RX4 145 RX4 yX4_inState wsX4_inState) := goodIn_app (goodIn_of _ (by decide +kernel)) ggX4_head_X4_inState
theorem dX4_head_0 : decode cX4_head 0 = .ok (.iload_n 1, 1) := by decide +kernel
theorem dX4_head_1 : decode cX4_head 1 = .ok (.invokestatic 88, 3) := by decide +kernel
theorem dX4_head_4 : decode cX4_head 4 = .ok (.ifCond .ne 5, 3) := by decide +kernel
theorem dX4_head_7 : decode cX4_head 7 = .ok (.iconst (-1), 1) := by decide +kernel
theorem dX4_head_8 : decode cX4_head 8 = .ok (.ireturn, 1) := by decide +kernel
theorem dX4_head_9 : decode cX4_head 9 = .ok (.iload_n 2, 1) := by decide +kernel
theorem dX4_head_10 : decode cX4_head 10 = .ok (.iconst 0, 1) := by decide +kernel
theorem dX4_head_11 : decode cX4_head 11 = .ok (.bipush 9, 2) := by decide +kernel
theorem dX4_head_13 : decode cX4_head 13 = .ok (.invokestatic 32, 3) := by decide +kernel
theorem dX4_head_16 : decode cX4_head 16 = .ok (.ifCond .ne 6, 3) := by decide +kernel
theorem dX4_head_19 : decode cX4_head 19 = .ok (.bipush (-2), 2) := by decide +kernel
theorem dX4_head_21 : decode cX4_head 21 = .ok (.ireturn, 1) := by decide +kernel
theorem dX4_head_22 : decode cX4_head 22 = .ok (.iload_n 2, 1) := by decide +kernel
theorem dX4_head_23 : decode cX4_head 23 = .ok (.iconst 2, 1) := by decide +kernel
theorem dX4_head_24 : decode cX4_head 24 = .ok (.if_icmp .ge 22, 3) := by decide +kernel
theorem dX4_head_27 : decode cX4_head 27 = .ok (.aload_n 0, 1) := by decide +kernel
theorem dX4_head_28 : decode cX4_head 28 = .ok (.getfield 7, 3) := by decide +kernel
theorem dX4_head_31 : decode cX4_head 31 = .ok (.iload_n 2, 1) := by decide +kernel
theorem dX4_head_32 : decode cX4_head 32 = .ok (.ifCond .ne 8, 3) := by decide +kernel
theorem dX4_head_35 : decode cX4_head 35 = .ok (.bipush 8, 2) := by decide +kernel
theorem dX4_head_37 : decode cX4_head 37 = .ok (.goto 5, 3) := by decide +kernel
theorem dX4_head_40 : decode cX4_head 40 = .ok (.bipush 12, 2) := by decide +kernel
theorem dX4_head_42 : decode cX4_head 42 = .ok (.iload_n 1, 1) := by decide +kernel
theorem dX4_head_43 : decode cX4_head 43 = .ok (.iadd, 1) := by decide +kernel
theorem dX4_head_44 : decode cX4_head 44 = .ok (.iaload, 1) := by decide +kernel
theorem dX4_head_45 : decode cX4_head 45 = .ok (.ireturn, 1) := by decide +kernel
theorem dX4_head_46 : decode cX4_head 46 = .ok (.iload_n 2, 1) := by decide +kernel
theorem dX4_head_47 : decode cX4_head 47 = .ok (.iconst 4, 1) := by decide +kernel
theorem dX4_head_48 : decode cX4_head 48 = .ok (.if_icmp .ge 26, 3) := by decide +kernel
theorem dX4_head_51 : decode cX4_head 51 = .ok (.iload_n 2, 1) := by decide +kernel
theorem dX4_head_52 : decode cX4_head 52 = .ok (.iconst 2, 1) := by decide +kernel
theorem dX4_head_53 : decode cX4_head 53 = .ok (.if_icmp .ne 11, 3) := by decide +kernel
theorem dX4_head_56 : decode cX4_head 56 = .ok (.aload_n 0, 1) := by decide +kernel
theorem dX4_head_57 : decode cX4_head 57 = .ok (.iload_n 1, 1) := by decide +kernel
theorem dX4_head_58 : decode cX4_head 58 = .ok (.invokevirtual 56, 3) := by decide +kernel
theorem dX4_head_61 : decode cX4_head 61 = .ok (.goto 12, 3) := by decide +kernel
theorem dX4_head_64 : decode cX4_head 64 = .ok (.aload_n 0, 1) := by decide +kernel
theorem dX4_head_65 : decode cX4_head 65 = .ok (.getfield 7, 3) := by decide +kernel
theorem dX4_head_68 : decode cX4_head 68 = .ok (.bipush 16, 2) := by decide +kernel
theorem dX4_head_70 : decode cX4_head 70 = .ok (.iload_n 1, 1) := by decide +kernel
theorem dX4_head_71 : decode cX4_head 71 = .ok (.iadd, 1) := by decide +kernel
theorem dX4_head_72 : decode cX4_head 72 = .ok (.iaload, 1) := by decide +kernel
theorem dX4_head_73 : decode cX4_head 73 = .ok (.ireturn, 1) := by decide +kernel
theorem dX4_head_74 : decode cX4_head 74 = .ok (.iload_n 2, 1) := by decide +kernel
theorem dX4_head_75 : decode cX4_head 75 = .ok (.bipush 6, 2) := by decide +kernel
theorem dX4_head_77 : decode cX4_head 77 = .ok (.if_icmp .ge 12, 3) := by decide +kernel
theorem dX4_head_80 : decode cX4_head 80 = .ok (.aload_n 0, 1) := by decide +kernel
theorem dX4_head_81 : decode cX4_head 81 = .ok (.iload_n 1, 1) := by decide +kernel
theorem dX4_head_82 : decode cX4_head 82 = .ok (.iload_n 2, 1) := by decide +kernel
theorem dX4_head_83 : decode cX4_head 83 = .ok (.iconst 4, 1) := by decide +kernel
theorem dX4_head_84 : decode cX4_head 84 = .ok (.isub, 1) := by decide +kernel
theorem dX4_head_85 : decode cX4_head 85 = .ok (.invokevirtual 142, 3) := by decide +kernel
theorem dX4_head_88 : decode cX4_head 88 = .ok (.ireturn, 1) := by decide +kernel
theorem dX4_head_89 : decode cX4_head 89 = .ok (.iload_n 2, 1) := by decide +kernel
theorem dX4_head_90 : decode cX4_head 90 = .ok (.bipush 6, 2) := by decide +kernel
theorem dX4_head_92 : decode cX4_head 92 = .ok (.if_icmp .ne 11, 3) := by decide +kernel
theorem dX4_head_95 : decode cX4_head 95 = .ok (.aload_n 0, 1) := by decide +kernel
theorem dX4_head_96 : decode cX4_head 96 = .ok (.iload_n 1, 1) := by decide +kernel
theorem dX4_head_97 : decode cX4_head 97 = .ok (.invokevirtual 109, 3) := by decide +kernel
theorem dX4_head_100 : decode cX4_head 100 = .ok (.goto 26, 3) := by decide +kernel
theorem dX4_head_103 : decode cX4_head 103 = .ok (.iload_n 2, 1) := by decide +kernel
theorem dX4_head_104 : decode cX4_head 104 = .ok (.bipush 7, 2) := by decide +kernel
theorem dX4_head_106 : decode cX4_head 106 = .ok (.if_icmp .ne 11, 3) := by decide +kernel
theorem dX4_head_109 : decode cX4_head 109 = .ok (.aload_n 0, 1) := by decide +kernel
theorem dX4_head_110 : decode cX4_head 110 = .ok (.iload_n 1, 1) := by decide +kernel
theorem dX4_head_111 : decode cX4_head 111 = .ok (.invokevirtual 91, 3) := by decide +kernel
theorem dX4_head_114 : decode cX4_head 114 = .ok (.goto 12, 3) := by decide +kernel
theorem dX4_head_117 : decode cX4_head 117 = .ok (.aload_n 0, 1) := by decide +kernel
theorem dX4_head_118 : decode cX4_head 118 = .ok (.iload_n 1, 1) := by decide +kernel
theorem dX4_head_119 : decode cX4_head 119 = .ok (.iload_n 2, 1) := by decide +kernel
theorem dX4_head_120 : decode cX4_head 120 = .ok (.bipush 7, 2) := by decide +kernel
theorem dX4_head_122 : decode cX4_head 122 = .ok (.isub, 1) := by decide +kernel
theorem dX4_head_123 : decode cX4_head 123 = .ok (.invokevirtual 145, 3) := by decide +kernel
theorem dX4_head_126 : decode cX4_head 126 = .ok (.ireturn, 1) := by decide +kernel
set_option maxRecDepth 20000 in
theorem ggX4_readsLeft_X4_isAddress : GoodIn wsX4_readsLeft wsX4_isAddress := goodIn_r _ [7, 8, 9, 6, 10, 11, 12, 13, 14, 1, 70, 71, 72, 73, 74, 75, 76, 77, 78, 79] (by decide +kernel) (by decide +kernel)
set_option maxRecDepth 20000 in
theorem gX4_readsLeft_X4_isAddress : GoodIn wsX4_readsLeft (wsV RX4 40 RX4 yX4_isAddress wsX4_isAddress) := goodIn_app (goodIn_of _ (by decide +kernel)) ggX4_readsLeft_X4_isAddress
set_option maxRecDepth 20000 in
theorem ggX4_readsLeft_X4_copies : GoodIn wsX4_readsLeft wsX4_copies := goodIn_r _ [17] (by decide +kernel) (by decide +kernel)
set_option maxRecDepth 20000 in
theorem gX4_readsLeft_X4_copies : GoodIn wsX4_readsLeft (va_wsS RX4 94 yX4_copies wsX4_copies) := goodIn_app (goodIn_of _ (by decide +kernel)) ggX4_readsLeft_X4_copies
set_option maxRecDepth 20000 in
theorem ggX4_readsLeft_X4_reads : GoodIn wsX4_readsLeft wsX4_reads := goodIn_r _ [21, 1, 3, 4, 5, 6, 7, 8, 9, 10, 11, 12, 13, 14, 22, 23, 24, 25, 26, 27, 28, 29, 30, 31, 32, 33, 34, 35, 36, 37, 38, 39, 40, 41, 42, 43, 44, 45, 46, 47, 48, 49, 50, 51, 52, 53, 54, 55, 56, 57, 58, 59, 60, 61, 62, 63, 64, 65, 66, 67, 68, 69, 70, 71, 72, 73, 74, 75, 76, 77, 78, 79] (by decide +kernel) (by decide +kernel)
set_option maxRecDepth 20000 in
theorem gX4_readsLeft_X4_reads : GoodIn wsX4_readsLeft (wsV RX4 98 RX4 yX4_reads wsX4_reads) := goodIn_app (goodIn_of _ (by decide +kernel)) ggX4_readsLeft_X4_reads
theorem dX4_readsLeft_0 : decode cX4_readsLeft 0 = .ok (.aload_n 0, 1) := by decide +kernel
theorem dX4_readsLeft_1 : decode cX4_readsLeft 1 = .ok (.iload_n 1, 1) := by decide +kernel
theorem dX4_readsLeft_2 : decode cX4_readsLeft 2 = .ok (.invokevirtual 40, 3) := by decide +kernel
theorem dX4_readsLeft_5 : decode cX4_readsLeft 5 = .ok (.ifCond .ne 5, 3) := by decide +kernel
theorem dX4_readsLeft_8 : decode cX4_readsLeft 8 = .ok (.iconst (-1), 1) := by decide +kernel
theorem dX4_readsLeft_9 : decode cX4_readsLeft 9 = .ok (.ireturn, 1) := by decide +kernel
theorem dX4_readsLeft_10 : decode cX4_readsLeft 10 = .ok (.aload_n 0, 1) := by decide +kernel
theorem dX4_readsLeft_11 : decode cX4_readsLeft 11 = .ok (.getfield 7, 3) := by decide +kernel
theorem dX4_readsLeft_14 : decode cX4_readsLeft 14 = .ok (.sipush 148, 3) := by decide +kernel
theorem dX4_readsLeft_17 : decode cX4_readsLeft 17 = .ok (.iload_n 1, 1) := by decide +kernel
theorem dX4_readsLeft_18 : decode cX4_readsLeft 18 = .ok (.iadd, 1) := by decide +kernel
theorem dX4_readsLeft_19 : decode cX4_readsLeft 19 = .ok (.iaload, 1) := by decide +kernel
theorem dX4_readsLeft_20 : decode cX4_readsLeft 20 = .ok (.istore_n 2, 1) := by decide +kernel
theorem dX4_readsLeft_21 : decode cX4_readsLeft 21 = .ok (.iload_n 2, 1) := by decide +kernel
theorem dX4_readsLeft_22 : decode cX4_readsLeft 22 = .ok (.ifCond .ge 6, 3) := by decide +kernel
theorem dX4_readsLeft_25 : decode cX4_readsLeft 25 = .ok (.bipush (-4), 2) := by decide +kernel
theorem dX4_readsLeft_27 : decode cX4_readsLeft 27 = .ok (.ireturn, 1) := by decide +kernel
theorem dX4_readsLeft_28 : decode cX4_readsLeft 28 = .ok (.aload_n 0, 1) := by decide +kernel
theorem dX4_readsLeft_29 : decode cX4_readsLeft 29 = .ok (.getfield 7, 3) := by decide +kernel
theorem dX4_readsLeft_32 : decode cX4_readsLeft 32 = .ok (.aload_n 0, 1) := by decide +kernel
theorem dX4_readsLeft_33 : decode cX4_readsLeft 33 = .ok (.getfield 13, 3) := by decide +kernel
theorem dX4_readsLeft_36 : decode cX4_readsLeft 36 = .ok (.invokestatic 94, 3) := by decide +kernel
theorem dX4_readsLeft_39 : decode cX4_readsLeft 39 = .ok (.iconst 0, 1) := by decide +kernel
theorem dX4_readsLeft_40 : decode cX4_readsLeft 40 = .ok (.istore_n 3, 1) := by decide +kernel
theorem dX4_readsLeft_41 : decode cX4_readsLeft 41 = .ok (.iload_n 3, 1) := by decide +kernel
theorem dX4_readsLeft_42 : decode cX4_readsLeft 42 = .ok (.sipush 2000, 3) := by decide +kernel
theorem dX4_readsLeft_45 : decode cX4_readsLeft 45 = .ok (.if_icmp .ge 30, 3) := by decide +kernel
theorem dX4_readsLeft_48 : decode cX4_readsLeft 48 = .ok (.aload_n 0, 1) := by decide +kernel
theorem dX4_readsLeft_49 : decode cX4_readsLeft 49 = .ok (.getfield 7, 3) := by decide +kernel
theorem dX4_readsLeft_52 : decode cX4_readsLeft 52 = .ok (.sipush 148, 3) := by decide +kernel
theorem dX4_readsLeft_55 : decode cX4_readsLeft 55 = .ok (.iload_n 1, 1) := by decide +kernel
theorem dX4_readsLeft_56 : decode cX4_readsLeft 56 = .ok (.iadd, 1) := by decide +kernel
theorem dX4_readsLeft_57 : decode cX4_readsLeft 57 = .ok (.iaload, 1) := by decide +kernel
theorem dX4_readsLeft_58 : decode cX4_readsLeft 58 = .ok (.iload_n 2, 1) := by decide +kernel
theorem dX4_readsLeft_59 : decode cX4_readsLeft 59 = .ok (.if_icmp .ne 16, 3) := by decide +kernel
theorem dX4_readsLeft_62 : decode cX4_readsLeft 62 = .ok (.aload_n 0, 1) := by decide +kernel
theorem dX4_readsLeft_63 : decode cX4_readsLeft 63 = .ok (.iload_n 1, 1) := by decide +kernel
theorem dX4_readsLeft_64 : decode cX4_readsLeft 64 = .ok (.invokevirtual 98, 3) := by decide +kernel
theorem dX4_readsLeft_67 : decode cX4_readsLeft 67 = .ok (.istore 4, 2) := by decide +kernel
theorem dX4_readsLeft_69 : decode cX4_readsLeft 69 = .ok (.iinc 3 1, 3) := by decide +kernel
theorem dX4_readsLeft_72 : decode cX4_readsLeft 72 = .ok (.goto (-31), 3) := by decide +kernel
theorem dX4_readsLeft_75 : decode cX4_readsLeft 75 = .ok (.aload_n 0, 1) := by decide +kernel
theorem dX4_readsLeft_76 : decode cX4_readsLeft 76 = .ok (.getfield 7, 3) := by decide +kernel
theorem dX4_readsLeft_79 : decode cX4_readsLeft 79 = .ok (.sipush 148, 3) := by decide +kernel
theorem dX4_readsLeft_82 : decode cX4_readsLeft 82 = .ok (.iload_n 1, 1) := by decide +kernel
theorem dX4_readsLeft_83 : decode cX4_readsLeft 83 = .ok (.iadd, 1) := by decide +kernel
theorem dX4_readsLeft_84 : decode cX4_readsLeft 84 = .ok (.iaload, 1) := by decide +kernel
theorem dX4_readsLeft_85 : decode cX4_readsLeft 85 = .ok (.iload_n 2, 1) := by decide +kernel
theorem dX4_readsLeft_86 : decode cX4_readsLeft 86 = .ok (.if_icmp .eq 7, 3) := by decide +kernel
theorem dX4_readsLeft_89 : decode cX4_readsLeft 89 = .ok (.iconst 1, 1) := by decide +kernel
theorem dX4_readsLeft_90 : decode cX4_readsLeft 90 = .ok (.goto 4, 3) := by decide +kernel
theorem dX4_readsLeft_93 : decode cX4_readsLeft 93 = .ok (.iconst 0, 1) := by decide +kernel
theorem dX4_readsLeft_94 : decode cX4_readsLeft 94 = .ok (.istore 4, 2) := by decide +kernel
theorem dX4_readsLeft_96 : decode cX4_readsLeft 96 = .ok (.aload_n 0, 1) := by decide +kernel
theorem dX4_readsLeft_97 : decode cX4_readsLeft 97 = .ok (.getfield 13, 3) := by decide +kernel
theorem dX4_readsLeft_100 : decode cX4_readsLeft 100 = .ok (.aload_n 0, 1) := by decide +kernel
theorem dX4_readsLeft_101 : decode cX4_readsLeft 101 = .ok (.getfield 7, 3) := by decide +kernel
theorem dX4_readsLeft_104 : decode cX4_readsLeft 104 = .ok (.invokestatic 94, 3) := by decide +kernel
theorem dX4_readsLeft_107 : decode cX4_readsLeft 107 = .ok (.iload 4, 2) := by decide +kernel
theorem dX4_readsLeft_109 : decode cX4_readsLeft 109 = .ok (.ifCond .eq 7, 3) := by decide +kernel
theorem dX4_readsLeft_112 : decode cX4_readsLeft 112 = .ok (.iload_n 3, 1) := by decide +kernel
theorem dX4_readsLeft_113 : decode cX4_readsLeft 113 = .ok (.goto 5, 3) := by decide +kernel
theorem dX4_readsLeft_116 : decode cX4_readsLeft 116 = .ok (.bipush (-5), 2) := by decide +kernel
theorem dX4_readsLeft_118 : decode cX4_readsLeft 118 = .ok (.ireturn, 1) := by decide +kernel
set_option maxRecDepth 20000 in
theorem ggX4_wouldLose_X4_isHead : GoodIn wsX4_wouldLose wsX4_isHead := goodIn_r _ [6, 7, 8, 5, 9] (by decide +kernel) (by decide +kernel)
set_option maxRecDepth 20000 in
theorem gX4_wouldLose_X4_isHead : GoodIn wsX4_wouldLose (va_wsS RX4 88 yX4_isHead wsX4_isHead) := goodIn_app (goodIn_of _ (by decide +kernel)) ggX4_wouldLose_X4_isHead
set_option maxRecDepth 20000 in
theorem ggX4_wouldLose_X4_copies : GoodIn wsX4_wouldLose wsX4_copies := goodIn_r _ [12] (by decide +kernel) (by decide +kernel)
set_option maxRecDepth 20000 in
theorem gX4_wouldLose_X4_copies : GoodIn wsX4_wouldLose (va_wsS RX4 94 yX4_copies wsX4_copies) := goodIn_app (goodIn_of _ (by decide +kernel)) ggX4_wouldLose_X4_copies
set_option maxRecDepth 20000 in
theorem ggX4_wouldLose_X4_givesUp : GoodIn wsX4_wouldLose wsX4_givesUp := goodIn_r _ [16, 1, 17, 18, 19, 5, 20, 7, 8, 9, 21, 22, 23, 24, 25, 26, 27, 28, 29, 30, 31, 32, 33, 34, 35, 36, 37, 38, 39, 40, 41, 42, 43, 44, 45, 46, 47, 48, 49, 50, 51, 52, 53, 54, 55, 56, 57, 58, 59, 60, 61, 62, 63, 64, 65, 66, 67] (by decide +kernel) (by decide +kernel)
set_option maxRecDepth 20000 in
theorem gX4_wouldLose_X4_givesUp : GoodIn wsX4_wouldLose (wsV RX4 112 RX4 yX4_givesUp wsX4_givesUp) := goodIn_app (goodIn_of _ (by decide +kernel)) ggX4_wouldLose_X4_givesUp
theorem dX4_wouldLose_0 : decode cX4_wouldLose 0 = .ok (.iload_n 1, 1) := by decide +kernel
theorem dX4_wouldLose_1 : decode cX4_wouldLose 1 = .ok (.invokestatic 88, 3) := by decide +kernel
theorem dX4_wouldLose_4 : decode cX4_wouldLose 4 = .ok (.ifCond .ne 5, 3) := by decide +kernel
theorem dX4_wouldLose_7 : decode cX4_wouldLose 7 = .ok (.iconst (-1), 1) := by decide +kernel
theorem dX4_wouldLose_8 : decode cX4_wouldLose 8 = .ok (.ireturn, 1) := by decide +kernel
theorem dX4_wouldLose_9 : decode cX4_wouldLose 9 = .ok (.aload_n 0, 1) := by decide +kernel
theorem dX4_wouldLose_10 : decode cX4_wouldLose 10 = .ok (.getfield 7, 3) := by decide +kernel
theorem dX4_wouldLose_13 : decode cX4_wouldLose 13 = .ok (.bipush 16, 2) := by decide +kernel
theorem dX4_wouldLose_15 : decode cX4_wouldLose 15 = .ok (.iload_n 1, 1) := by decide +kernel
theorem dX4_wouldLose_16 : decode cX4_wouldLose 16 = .ok (.iadd, 1) := by decide +kernel
theorem dX4_wouldLose_17 : decode cX4_wouldLose 17 = .ok (.iaload, 1) := by decide +kernel
theorem dX4_wouldLose_18 : decode cX4_wouldLose 18 = .ok (.iconst 1, 1) := by decide +kernel
theorem dX4_wouldLose_19 : decode cX4_wouldLose 19 = .ok (.if_icmp .ne 6, 3) := by decide +kernel
theorem dX4_wouldLose_22 : decode cX4_wouldLose 22 = .ok (.bipush (-5), 2) := by decide +kernel
theorem dX4_wouldLose_24 : decode cX4_wouldLose 24 = .ok (.ireturn, 1) := by decide +kernel
theorem dX4_wouldLose_25 : decode cX4_wouldLose 25 = .ok (.aload_n 0, 1) := by decide +kernel
theorem dX4_wouldLose_26 : decode cX4_wouldLose 26 = .ok (.getfield 7, 3) := by decide +kernel
theorem dX4_wouldLose_29 : decode cX4_wouldLose 29 = .ok (.aload_n 0, 1) := by decide +kernel
theorem dX4_wouldLose_30 : decode cX4_wouldLose 30 = .ok (.getfield 13, 3) := by decide +kernel
theorem dX4_wouldLose_33 : decode cX4_wouldLose 33 = .ok (.invokestatic 94, 3) := by decide +kernel
theorem dX4_wouldLose_36 : decode cX4_wouldLose 36 = .ok (.aload_n 0, 1) := by decide +kernel
theorem dX4_wouldLose_37 : decode cX4_wouldLose 37 = .ok (.iload_n 1, 1) := by decide +kernel
theorem dX4_wouldLose_38 : decode cX4_wouldLose 38 = .ok (.invokevirtual 112, 3) := by decide +kernel
theorem dX4_wouldLose_41 : decode cX4_wouldLose 41 = .ok (.istore_n 2, 1) := by decide +kernel
theorem dX4_wouldLose_42 : decode cX4_wouldLose 42 = .ok (.aload_n 0, 1) := by decide +kernel
theorem dX4_wouldLose_43 : decode cX4_wouldLose 43 = .ok (.getfield 13, 3) := by decide +kernel
theorem dX4_wouldLose_46 : decode cX4_wouldLose 46 = .ok (.aload_n 0, 1) := by decide +kernel
theorem dX4_wouldLose_47 : decode cX4_wouldLose 47 = .ok (.getfield 7, 3) := by decide +kernel
theorem dX4_wouldLose_50 : decode cX4_wouldLose 50 = .ok (.invokestatic 94, 3) := by decide +kernel
theorem dX4_wouldLose_53 : decode cX4_wouldLose 53 = .ok (.iload_n 2, 1) := by decide +kernel
theorem dX4_wouldLose_54 : decode cX4_wouldLose 54 = .ok (.ireturn, 1) := by decide +kernel
set_option maxRecDepth 20000 in
theorem ggX4_ahead_X4_isAddress : GoodIn wsX4_ahead wsX4_isAddress := goodIn_r _ [6, 7, 8, 5, 9, 10, 11, 12, 13, 1, 18, 19, 20, 21, 22, 23, 24, 25, 26, 27] (by decide +kernel) (by decide +kernel)
set_option maxRecDepth 20000 in
theorem gX4_ahead_X4_isAddress : GoodIn wsX4_ahead (wsV RX4 40 RX4 yX4_isAddress wsX4_isAddress) := goodIn_app (goodIn_of _ (by decide +kernel)) ggX4_ahead_X4_isAddress
set_option maxRecDepth 20000 in
theorem ggX4_ahead_X4_isLost : GoodIn wsX4_ahead wsX4_isLost := goodIn_r _ [17, 1, 18, 19, 20, 21, 22, 23, 24, 25, 26, 27] (by decide +kernel) (by decide +kernel)
set_option maxRecDepth 20000 in
theorem gX4_ahead_X4_isLost : GoodIn wsX4_ahead (wsV RX4 75 RX4 yX4_isLost wsX4_isLost) := goodIn_app (goodIn_of _ (by decide +kernel)) ggX4_ahead_X4_isLost
theorem dX4_ahead_0 : decode cX4_ahead 0 = .ok (.aload_n 0, 1) := by decide +kernel
theorem dX4_ahead_1 : decode cX4_ahead 1 = .ok (.getfield 7, 3) := by decide +kernel
theorem dX4_ahead_4 : decode cX4_ahead 4 = .ok (.bipush 20, 2) := by decide +kernel
theorem dX4_ahead_6 : decode cX4_ahead 6 = .ok (.aload_n 0, 1) := by decide +kernel
theorem dX4_ahead_7 : decode cX4_ahead 7 = .ok (.getfield 7, 3) := by decide +kernel
theorem dX4_ahead_10 : decode cX4_ahead 10 = .ok (.sipush 148, 3) := by decide +kernel
theorem dX4_ahead_13 : decode cX4_ahead 13 = .ok (.iload_n 1, 1) := by decide +kernel
theorem dX4_ahead_14 : decode cX4_ahead 14 = .ok (.iadd, 1) := by decide +kernel
theorem dX4_ahead_15 : decode cX4_ahead 15 = .ok (.iaload, 1) := by decide +kernel
theorem dX4_ahead_16 : decode cX4_ahead 16 = .ok (.iadd, 1) := by decide +kernel
theorem dX4_ahead_17 : decode cX4_ahead 17 = .ok (.iaload, 1) := by decide +kernel
theorem dX4_ahead_18 : decode cX4_ahead 18 = .ok (.istore_n 2, 1) := by decide +kernel
theorem dX4_ahead_19 : decode cX4_ahead 19 = .ok (.iconst 0, 1) := by decide +kernel
theorem dX4_ahead_20 : decode cX4_ahead 20 = .ok (.istore_n 3, 1) := by decide +kernel
theorem dX4_ahead_21 : decode cX4_ahead 21 = .ok (.iconst 0, 1) := by decide +kernel
theorem dX4_ahead_22 : decode cX4_ahead 22 = .ok (.istore 4, 2) := by decide +kernel
theorem dX4_ahead_24 : decode cX4_ahead 24 = .ok (.iload 4, 2) := by decide +kernel
theorem dX4_ahead_26 : decode cX4_ahead 26 = .ok (.bipush 64, 2) := by decide +kernel
theorem dX4_ahead_28 : decode cX4_ahead 28 = .ok (.if_icmp .ge 74, 3) := by decide +kernel
theorem dX4_ahead_31 : decode cX4_ahead 31 = .ok (.aload_n 0, 1) := by decide +kernel
theorem dX4_ahead_32 : decode cX4_ahead 32 = .ok (.iload 4, 2) := by decide +kernel
theorem dX4_ahead_34 : decode cX4_ahead 34 = .ok (.invokevirtual 40, 3) := by decide +kernel
theorem dX4_ahead_37 : decode cX4_ahead 37 = .ok (.ifCond .eq 59, 3) := by decide +kernel
theorem dX4_ahead_40 : decode cX4_ahead 40 = .ok (.aload_n 0, 1) := by decide +kernel
theorem dX4_ahead_41 : decode cX4_ahead 41 = .ok (.iload 4, 2) := by decide +kernel
theorem dX4_ahead_43 : decode cX4_ahead 43 = .ok (.invokevirtual 75, 3) := by decide +kernel
theorem dX4_ahead_46 : decode cX4_ahead 46 = .ok (.ifCond .ne 50, 3) := by decide +kernel
theorem dX4_ahead_49 : decode cX4_ahead 49 = .ok (.aload_n 0, 1) := by decide +kernel
theorem dX4_ahead_50 : decode cX4_ahead 50 = .ok (.getfield 7, 3) := by decide +kernel
theorem dX4_ahead_53 : decode cX4_ahead 53 = .ok (.bipush 20, 2) := by decide +kernel
theorem dX4_ahead_55 : decode cX4_ahead 55 = .ok (.aload_n 0, 1) := by decide +kernel
theorem dX4_ahead_56 : decode cX4_ahead 56 = .ok (.getfield 7, 3) := by decide +kernel
theorem dX4_ahead_59 : decode cX4_ahead 59 = .ok (.sipush 148, 3) := by decide +kernel
theorem dX4_ahead_62 : decode cX4_ahead 62 = .ok (.iload 4, 2) := by decide +kernel
theorem dX4_ahead_64 : decode cX4_ahead 64 = .ok (.iadd, 1) := by decide +kernel
theorem dX4_ahead_65 : decode cX4_ahead 65 = .ok (.iaload, 1) := by decide +kernel
theorem dX4_ahead_66 : decode cX4_ahead 66 = .ok (.iadd, 1) := by decide +kernel
theorem dX4_ahead_67 : decode cX4_ahead 67 = .ok (.iaload, 1) := by decide +kernel
theorem dX4_ahead_68 : decode cX4_ahead 68 = .ok (.istore 5, 2) := by decide +kernel
theorem dX4_ahead_70 : decode cX4_ahead 70 = .ok (.iload_n 3, 1) := by decide +kernel
theorem dX4_ahead_71 : decode cX4_ahead 71 = .ok (.iload 5, 2) := by decide +kernel
theorem dX4_ahead_73 : decode cX4_ahead 73 = .ok (.iload_n 2, 1) := by decide +kernel
theorem dX4_ahead_74 : decode cX4_ahead 74 = .ok (.if_icmp .gt 15, 3) := by decide +kernel
theorem dX4_ahead_77 : decode cX4_ahead 77 = .ok (.iload 5, 2) := by decide +kernel
theorem dX4_ahead_79 : decode cX4_ahead 79 = .ok (.iload_n 2, 1) := by decide +kernel
theorem dX4_ahead_80 : decode cX4_ahead 80 = .ok (.if_icmp .ne 13, 3) := by decide +kernel
theorem dX4_ahead_83 : decode cX4_ahead 83 = .ok (.iload 4, 2) := by decide +kernel
theorem dX4_ahead_85 : decode cX4_ahead 85 = .ok (.iload_n 1, 1) := by decide +kernel
theorem dX4_ahead_86 : decode cX4_ahead 86 = .ok (.if_icmp .ge 7, 3) := by decide +kernel
theorem dX4_ahead_89 : decode cX4_ahead 89 = .ok (.iconst 1, 1) := by decide +kernel
theorem dX4_ahead_90 : decode cX4_ahead 90 = .ok (.goto 4, 3) := by decide +kernel
theorem dX4_ahead_93 : decode cX4_ahead 93 = .ok (.iconst 0, 1) := by decide +kernel
theorem dX4_ahead_94 : decode cX4_ahead 94 = .ok (.iadd, 1) := by decide +kernel
theorem dX4_ahead_95 : decode cX4_ahead 95 = .ok (.istore_n 3, 1) := by decide +kernel
theorem dX4_ahead_96 : decode cX4_ahead 96 = .ok (.iinc 4 1, 3) := by decide +kernel
theorem dX4_ahead_99 : decode cX4_ahead 99 = .ok (.goto (-75), 3) := by decide +kernel
theorem dX4_ahead_102 : decode cX4_ahead 102 = .ok (.iload_n 3, 1) := by decide +kernel
theorem dX4_ahead_103 : decode cX4_ahead 103 = .ok (.ireturn, 1) := by decide +kernel
set_option maxRecDepth 20000 in
theorem ggX4_worst_X4_isAddress : GoodIn wsX4_worst wsX4_isAddress := goodIn_r _ [5, 6, 7, 4, 8, 9, 10, 11, 12, 13, 22, 23, 24, 25, 26, 27, 28, 29, 30, 31] (by decide +kernel) (by decide +kernel)
set_option maxRecDepth 20000 in
theorem gX4_worst_X4_isAddress : GoodIn wsX4_worst (wsV RX4 40 RX4 yX4_isAddress wsX4_isAddress) := goodIn_app (goodIn_of _ (by decide +kernel)) ggX4_worst_X4_isAddress
set_option maxRecDepth 20000 in
theorem ggX4_worst_X4_isLost : GoodIn wsX4_worst wsX4_isLost := goodIn_r _ [17, 13, 22, 23, 24, 25, 26, 27, 28, 29, 30, 31] (by decide +kernel) (by decide +kernel)
set_option maxRecDepth 20000 in
theorem gX4_worst_X4_isLost : GoodIn wsX4_worst (wsV RX4 75 RX4 yX4_isLost wsX4_isLost) := goodIn_app (goodIn_of _ (by decide +kernel)) ggX4_worst_X4_isLost
set_option maxRecDepth 20000 in
theorem ggX4_worst_X4_ahead : GoodIn wsX4_worst wsX4_ahead := goodIn_r _ [21, 13, 1, 2, 3, 4, 5, 6, 7, 8, 9, 10, 11, 12, 14, 15, 16, 17, 22, 23, 24, 25, 26, 27, 28, 29, 30, 31] (by decide +kernel) (by decide +kernel)
set_option maxRecDepth 20000 in
theorem gX4_worst_X4_ahead : GoodIn wsX4_worst (wsV RX4 148 RX4 yX4_ahead wsX4_ahead) := goodIn_app (goodIn_of _ (by decide +kernel)) ggX4_worst_X4_ahead
theorem dX4_worst_0 : decode cX4_worst 0 = .ok (.iload_n 1, 1) := by decide +kernel
theorem dX4_worst_1 : decode cX4_worst 1 = .ok (.ifCond .ge 6, 3) := by decide +kernel
theorem dX4_worst_4 : decode cX4_worst 4 = .ok (.bipush (-2), 2) := by decide +kernel
theorem dX4_worst_6 : decode cX4_worst 6 = .ok (.ireturn, 1) := by decide +kernel
theorem dX4_worst_7 : decode cX4_worst 7 = .ok (.iconst 0, 1) := by decide +kernel
theorem dX4_worst_8 : decode cX4_worst 8 = .ok (.istore_n 2, 1) := by decide +kernel
theorem dX4_worst_9 : decode cX4_worst 9 = .ok (.iload_n 2, 1) := by decide +kernel
theorem dX4_worst_10 : decode cX4_worst 10 = .ok (.bipush 64, 2) := by decide +kernel
theorem dX4_worst_12 : decode cX4_worst 12 = .ok (.if_icmp .ge 36, 3) := by decide +kernel
theorem dX4_worst_15 : decode cX4_worst 15 = .ok (.aload_n 0, 1) := by decide +kernel
theorem dX4_worst_16 : decode cX4_worst 16 = .ok (.iload_n 2, 1) := by decide +kernel
theorem dX4_worst_17 : decode cX4_worst 17 = .ok (.invokevirtual 40, 3) := by decide +kernel
theorem dX4_worst_20 : decode cX4_worst 20 = .ok (.ifCond .eq 22, 3) := by decide +kernel
theorem dX4_worst_23 : decode cX4_worst 23 = .ok (.aload_n 0, 1) := by decide +kernel
theorem dX4_worst_24 : decode cX4_worst 24 = .ok (.iload_n 2, 1) := by decide +kernel
theorem dX4_worst_25 : decode cX4_worst 25 = .ok (.invokevirtual 75, 3) := by decide +kernel
theorem dX4_worst_28 : decode cX4_worst 28 = .ok (.ifCond .ne 14, 3) := by decide +kernel
theorem dX4_worst_31 : decode cX4_worst 31 = .ok (.aload_n 0, 1) := by decide +kernel
theorem dX4_worst_32 : decode cX4_worst 32 = .ok (.iload_n 2, 1) := by decide +kernel
theorem dX4_worst_33 : decode cX4_worst 33 = .ok (.invokevirtual 148, 3) := by decide +kernel
theorem dX4_worst_36 : decode cX4_worst 36 = .ok (.iload_n 1, 1) := by decide +kernel
theorem dX4_worst_37 : decode cX4_worst 37 = .ok (.if_icmp .ne 5, 3) := by decide +kernel
theorem dX4_worst_40 : decode cX4_worst 40 = .ok (.iload_n 2, 1) := by decide +kernel
theorem dX4_worst_41 : decode cX4_worst 41 = .ok (.ireturn, 1) := by decide +kernel
theorem dX4_worst_42 : decode cX4_worst 42 = .ok (.iinc 2 1, 3) := by decide +kernel
theorem dX4_worst_45 : decode cX4_worst 45 = .ok (.goto (-36), 3) := by decide +kernel
theorem dX4_worst_48 : decode cX4_worst 48 = .ok (.bipush (-5), 2) := by decide +kernel
theorem dX4_worst_50 : decode cX4_worst 50 = .ok (.ireturn, 1) := by decide +kernel
set_option maxRecDepth 20000 in
theorem ggX4_count_X4_in : GoodIn wsX4_count wsX4_in := goodIn_r _ [7] (by decide +kernel) (by decide +kernel)
set_option maxRecDepth 20000 in
theorem gX4_count_X4_in : GoodIn wsX4_count (va_wsS RX4 32 yX4_in wsX4_in) := goodIn_app (goodIn_of _ (by decide +kernel)) ggX4_count_X4_in
set_option maxRecDepth 20000 in
theorem ggX4_count_X4_isAddress : GoodIn wsX4_count wsX4_isAddress := goodIn_r _ [11, 4, 5, 6, 7, 12, 13, 14, 15, 1, 32, 33, 34, 35, 36, 37, 38, 39, 40, 41] (by decide +kernel) (by decide +kernel)
set_option maxRecDepth 20000 in
theorem gX4_count_X4_isAddress : GoodIn wsX4_count (wsV RX4 40 RX4 yX4_isAddress wsX4_isAddress) := goodIn_app (goodIn_of _ (by decide +kernel)) ggX4_count_X4_isAddress
set_option maxRecDepth 20000 in
theorem ggX4_count_X4_isLost : GoodIn wsX4_count wsX4_isLost := goodIn_r _ [19, 1, 32, 33, 34, 35, 36, 37, 38, 39, 40, 41] (by decide +kernel) (by decide +kernel)
set_option maxRecDepth 20000 in
theorem gX4_count_X4_isLost : GoodIn wsX4_count (wsV RX4 75 RX4 yX4_isLost wsX4_isLost) := goodIn_app (goodIn_of _ (by decide +kernel)) ggX4_count_X4_isLost
set_option maxRecDepth 20000 in
theorem ggX4_count_X4_isFree : GoodIn wsX4_count wsX4_isFree := goodIn_r _ [23, 1, 12, 13, 14, 6, 15, 24, 25, 26, 27, 28, 29, 30, 31, 8, 9, 10, 11, 4, 5, 7, 32, 33, 34, 35, 36, 37, 38, 39, 40, 41] (by decide +kernel) (by decide +kernel)
set_option maxRecDepth 20000 in
theorem gX4_count_X4_isFree : GoodIn wsX4_count (wsV RX4 50 RX4 yX4_isFree wsX4_isFree) := goodIn_app (goodIn_of _ (by decide +kernel)) ggX4_count_X4_isFree
theorem dX4_count_0 : decode cX4_count 0 = .ok (.iload_n 1, 1) := by decide +kernel
theorem dX4_count_1 : decode cX4_count 1 = .ok (.iconst 0, 1) := by decide +kernel
theorem dX4_count_2 : decode cX4_count 2 = .ok (.bipush 13, 2) := by decide +kernel
theorem dX4_count_4 : decode cX4_count 4 = .ok (.invokestatic 32, 3) := by decide +kernel
theorem dX4_count_7 : decode cX4_count 7 = .ok (.ifCond .ne 6, 3) := by decide +kernel
theorem dX4_count_10 : decode cX4_count 10 = .ok (.bipush (-2), 2) := by decide +kernel
theorem dX4_count_12 : decode cX4_count 12 = .ok (.ireturn, 1) := by decide +kernel
theorem dX4_count_13 : decode cX4_count 13 = .ok (.iload_n 1, 1) := by decide +kernel
theorem dX4_count_14 : decode cX4_count 14 = .ok (.ifCond .ne 10, 3) := by decide +kernel
theorem dX4_count_17 : decode cX4_count 17 = .ok (.aload_n 0, 1) := by decide +kernel
theorem dX4_count_18 : decode cX4_count 18 = .ok (.getfield 7, 3) := by decide +kernel
theorem dX4_count_21 : decode cX4_count 21 = .ok (.iconst 0, 1) := by decide +kernel
theorem dX4_count_22 : decode cX4_count 22 = .ok (.iaload, 1) := by decide +kernel
theorem dX4_count_23 : decode cX4_count 23 = .ok (.ireturn, 1) := by decide +kernel
theorem dX4_count_24 : decode cX4_count 24 = .ok (.iload_n 1, 1) := by decide +kernel
theorem dX4_count_25 : decode cX4_count 25 = .ok (.bipush 11, 2) := by decide +kernel
theorem dX4_count_27 : decode cX4_count 27 = .ok (.if_icmp .le 21, 3) := by decide +kernel
theorem dX4_count_30 : decode cX4_count 30 = .ok (.iload_n 1, 1) := by decide +kernel
theorem dX4_count_31 : decode cX4_count 31 = .ok (.bipush 12, 2) := by decide +kernel
theorem dX4_count_33 : decode cX4_count 33 = .ok (.if_icmp .ne 10, 3) := by decide +kernel
theorem dX4_count_36 : decode cX4_count 36 = .ok (.aload_n 0, 1) := by decide +kernel
theorem dX4_count_37 : decode cX4_count 37 = .ok (.getfield 28, 3) := by decide +kernel
theorem dX4_count_40 : decode cX4_count 40 = .ok (.goto 7, 3) := by decide +kernel
theorem dX4_count_43 : decode cX4_count 43 = .ok (.aload_n 0, 1) := by decide +kernel
theorem dX4_count_44 : decode cX4_count 44 = .ok (.getfield 118, 3) := by decide +kernel
theorem dX4_count_47 : decode cX4_count 47 = .ok (.ireturn, 1) := by decide +kernel
theorem dX4_count_48 : decode cX4_count 48 = .ok (.iload_n 1, 1) := by decide +kernel
theorem dX4_count_49 : decode cX4_count 49 = .ok (.iconst 4, 1) := by decide +kernel
theorem dX4_count_50 : decode cX4_count 50 = .ok (.if_icmp .le 12, 3) := by decide +kernel
theorem dX4_count_53 : decode cX4_count 53 = .ok (.aload_n 0, 1) := by decide +kernel
theorem dX4_count_54 : decode cX4_count 54 = .ok (.getfield 7, 3) := by decide +kernel
theorem dX4_count_57 : decode cX4_count 57 = .ok (.iload_n 1, 1) := by decide +kernel
theorem dX4_count_58 : decode cX4_count 58 = .ok (.iconst 4, 1) := by decide +kernel
theorem dX4_count_59 : decode cX4_count 59 = .ok (.isub, 1) := by decide +kernel
theorem dX4_count_60 : decode cX4_count 60 = .ok (.iaload, 1) := by decide +kernel
theorem dX4_count_61 : decode cX4_count 61 = .ok (.ireturn, 1) := by decide +kernel
theorem dX4_count_62 : decode cX4_count 62 = .ok (.iconst 0, 1) := by decide +kernel
theorem dX4_count_63 : decode cX4_count 63 = .ok (.istore_n 2, 1) := by decide +kernel
theorem dX4_count_64 : decode cX4_count 64 = .ok (.iconst 0, 1) := by decide +kernel
theorem dX4_count_65 : decode cX4_count 65 = .ok (.istore_n 3, 1) := by decide +kernel
theorem dX4_count_66 : decode cX4_count 66 = .ok (.iload_n 3, 1) := by decide +kernel
theorem dX4_count_67 : decode cX4_count 67 = .ok (.bipush 64, 2) := by decide +kernel
theorem dX4_count_69 : decode cX4_count 69 = .ok (.if_icmp .ge 97, 3) := by decide +kernel
theorem dX4_count_72 : decode cX4_count 72 = .ok (.aload_n 0, 1) := by decide +kernel
theorem dX4_count_73 : decode cX4_count 73 = .ok (.iload_n 3, 1) := by decide +kernel
theorem dX4_count_74 : decode cX4_count 74 = .ok (.invokevirtual 40, 3) := by decide +kernel
theorem dX4_count_77 : decode cX4_count 77 = .ok (.istore 4, 2) := by decide +kernel
theorem dX4_count_79 : decode cX4_count 79 = .ok (.iload_n 2, 1) := by decide +kernel
theorem dX4_count_80 : decode cX4_count 80 = .ok (.iload_n 1, 1) := by decide +kernel
theorem dX4_count_81 : decode cX4_count 81 = .ok (.iconst 1, 1) := by decide +kernel
theorem dX4_count_82 : decode cX4_count 82 = .ok (.if_icmp .ne 8, 3) := by decide +kernel
theorem dX4_count_85 : decode cX4_count 85 = .ok (.iload 4, 2) := by decide +kernel
theorem dX4_count_87 : decode cX4_count 87 = .ok (.ifCond .ne 66, 3) := by decide +kernel
theorem dX4_count_90 : decode cX4_count 90 = .ok (.iload_n 1, 1) := by decide +kernel
theorem dX4_count_91 : decode cX4_count 91 = .ok (.iconst 2, 1) := by decide +kernel
theorem dX4_count_92 : decode cX4_count 92 = .ok (.if_icmp .ne 16, 3) := by decide +kernel
theorem dX4_count_95 : decode cX4_count 95 = .ok (.iload 4, 2) := by decide +kernel
theorem dX4_count_97 : decode cX4_count 97 = .ok (.ifCond .eq 11, 3) := by decide +kernel
theorem dX4_count_100 : decode cX4_count 100 = .ok (.aload_n 0, 1) := by decide +kernel
theorem dX4_count_101 : decode cX4_count 101 = .ok (.iload_n 3, 1) := by decide +kernel
theorem dX4_count_102 : decode cX4_count 102 = .ok (.invokevirtual 75, 3) := by decide +kernel
theorem dX4_count_105 : decode cX4_count 105 = .ok (.ifCond .ne 48, 3) := by decide +kernel
theorem dX4_count_108 : decode cX4_count 108 = .ok (.iload_n 1, 1) := by decide +kernel
theorem dX4_count_109 : decode cX4_count 109 = .ok (.iconst 3, 1) := by decide +kernel
theorem dX4_count_110 : decode cX4_count 110 = .ok (.if_icmp .ne 30, 3) := by decide +kernel
theorem dX4_count_113 : decode cX4_count 113 = .ok (.iload 4, 2) := by decide +kernel
theorem dX4_count_115 : decode cX4_count 115 = .ok (.ifCond .eq 25, 3) := by decide +kernel
theorem dX4_count_118 : decode cX4_count 118 = .ok (.aload_n 0, 1) := by decide +kernel
theorem dX4_count_119 : decode cX4_count 119 = .ok (.iload_n 3, 1) := by decide +kernel
theorem dX4_count_120 : decode cX4_count 120 = .ok (.invokevirtual 75, 3) := by decide +kernel
theorem dX4_count_123 : decode cX4_count 123 = .ok (.ifCond .ne 17, 3) := by decide +kernel
theorem dX4_count_126 : decode cX4_count 126 = .ok (.aload_n 0, 1) := by decide +kernel
theorem dX4_count_127 : decode cX4_count 127 = .ok (.getfield 7, 3) := by decide +kernel
theorem dX4_count_130 : decode cX4_count 130 = .ok (.sipush 148, 3) := by decide +kernel
theorem dX4_count_133 : decode cX4_count 133 = .ok (.iload_n 3, 1) := by decide +kernel
theorem dX4_count_134 : decode cX4_count 134 = .ok (.iadd, 1) := by decide +kernel
theorem dX4_count_135 : decode cX4_count 135 = .ok (.iaload, 1) := by decide +kernel
theorem dX4_count_136 : decode cX4_count 136 = .ok (.iload_n 3, 1) := by decide +kernel
theorem dX4_count_137 : decode cX4_count 137 = .ok (.if_icmp .ne 16, 3) := by decide +kernel
theorem dX4_count_140 : decode cX4_count 140 = .ok (.iload_n 1, 1) := by decide +kernel
theorem dX4_count_141 : decode cX4_count 141 = .ok (.iconst 4, 1) := by decide +kernel
theorem dX4_count_142 : decode cX4_count 142 = .ok (.if_icmp .ne 15, 3) := by decide +kernel
theorem dX4_count_145 : decode cX4_count 145 = .ok (.aload_n 0, 1) := by decide +kernel
theorem dX4_count_146 : decode cX4_count 146 = .ok (.iload_n 3, 1) := by decide +kernel
theorem dX4_count_147 : decode cX4_count 147 = .ok (.invokevirtual 50, 3) := by decide +kernel
theorem dX4_count_150 : decode cX4_count 150 = .ok (.ifCond .eq 7, 3) := by decide +kernel
theorem dX4_count_153 : decode cX4_count 153 = .ok (.iconst 1, 1) := by decide +kernel
theorem dX4_count_154 : decode cX4_count 154 = .ok (.goto 4, 3) := by decide +kernel
theorem dX4_count_157 : decode cX4_count 157 = .ok (.iconst 0, 1) := by decide +kernel
theorem dX4_count_158 : decode cX4_count 158 = .ok (.iadd, 1) := by decide +kernel
theorem dX4_count_159 : decode cX4_count 159 = .ok (.istore_n 2, 1) := by decide +kernel
theorem dX4_count_160 : decode cX4_count 160 = .ok (.iinc 3 1, 3) := by decide +kernel
theorem dX4_count_163 : decode cX4_count 163 = .ok (.goto (-97), 3) := by decide +kernel
theorem dX4_count_166 : decode cX4_count 166 = .ok (.iload_n 2, 1) := by decide +kernel
theorem dX4_count_167 : decode cX4_count 167 = .ok (.ireturn, 1) := by decide +kernel
theorem dJ9_abs_0f7a4_0 : decode cJ9_abs_0f7a4 0 = .ok (.iload_n 0, 1) := by decide +kernel
theorem dJ9_abs_0f7a4_1 : decode cJ9_abs_0f7a4 1 = .ok (.ifCond .ge 8, 3) := by decide +kernel
theorem dJ9_abs_0f7a4_4 : decode cJ9_abs_0f7a4 4 = .ok (.iload_n 0, 1) := by decide +kernel
theorem dJ9_abs_0f7a4_5 : decode cJ9_abs_0f7a4 5 = .ok (.ineg, 1) := by decide +kernel
theorem dJ9_abs_0f7a4_6 : decode cJ9_abs_0f7a4 6 = .ok (.goto 4, 3) := by decide +kernel
theorem dJ9_abs_0f7a4_9 : decode cJ9_abs_0f7a4 9 = .ok (.iload_n 0, 1) := by decide +kernel
theorem dJ9_abs_0f7a4_10 : decode cJ9_abs_0f7a4 10 = .ok (.ireturn, 1) := by decide +kernel
set_option maxRecDepth 20000 in
theorem ggL_law_X3_init : GoodIn wsL_law wsX3_init := goodIn_r _ [8, 9, 10, 11, 12, 13, 14, 15, 16, 17, 18, 19, 20, 21, 22, 23, 24, 25, 26, 27, 28, 29, 30, 31, 32, 33, 34, 35, 36, 37, 38, 39, 40, 41, 42, 43, 44, 45, 46, 47, 48, 49, 50, 51, 52, 53, 54, 55, 56, 2, 57, 58, 59, 60, 61, 62, 63, 64, 65, 66, 67, 68, 69, 70, 71, 72, 73, 74, 75, 76, 77, 78, 79, 680, 681, 682, 683, 684, 685, 686, 687, 688, 689, 690, 691, 692, 693, 694, 664, 665, 666, 667, 668, 669, 695, 696, 697, 698, 699, 700, 701, 702, 703] (by decide +kernel) (by decide +kernel)
set_option maxRecDepth 20000 in
theorem gL_law_X3_init : GoodIn wsL_law (wsX3_init) := ggL_law_X3_init
set_option maxRecDepth 20000 in
theorem ggL_law_X4_init : GoodIn wsL_law wsX4_init := goodIn_r _ [82, 83, 10, 11, 32, 84, 85, 86, 87, 88, 89, 670, 671, 672, 673, 674, 675, 676, 677, 678, 679] (by decide +kernel) (by decide +kernel)
set_option maxRecDepth 20000 in
theorem gL_law_X4_init : GoodIn wsL_law (wsX4_init) := ggL_law_X4_init
set_option maxRecDepth 20000 in
theorem ggL_law_X3_setLimit : GoodIn wsL_law wsX3_setLimit := goodIn_r _ [93, 16, 94, 95, 96, 2, 97, 15, 98, 99, 100, 14, 101, 31, 33, 102, 103, 104, 105, 34, 36, 37, 38, 39, 40, 41, 42, 43, 44, 45, 46, 47, 106, 107, 108, 109, 110, 111, 112, 113, 21, 114, 115, 116, 20, 117, 69, 68, 67, 118, 664, 665, 666, 667, 668, 669, 680, 681, 682, 683, 684, 685, 686, 687, 688, 689, 690, 691, 692, 693, 694, 695, 696, 697] (by decide +kernel) (by decide +kernel)
set_option maxRecDepth 20000 in
theorem gL_law_X3_setLimit : GoodIn wsL_law (wsV RL 13 RX3 yX3_setLimit wsX3_setLimit) := goodIn_app (goodIn_of _ (by decide +kernel)) ggL_law_X3_setLimit
set_option maxRecDepth 20000 in
theorem ggL_law_X4_setLimit : GoodIn wsL_law wsX4_setLimit := goodIn_r _ [122, 84, 123, 124, 5, 125, 126, 127, 128, 129, 130, 88, 670, 671, 672, 673, 674, 675, 676, 677, 678, 679] (by decide +kernel) (by decide +kernel)
set_option maxRecDepth 20000 in
theorem gL_law_X4_setLimit : GoodIn wsL_law (wsV RL 17 RX4 yX4_setLimit wsX4_setLimit) := goodIn_app (goodIn_of _ (by decide +kernel)) ggL_law_X4_setLimit
set_option maxRecDepth 20000 in
theorem ggL_law_X3_setHead : GoodIn wsL_law wsX3_setHead := goodIn_r _ [134, 16, 135, 136, 2, 137, 94, 95, 96, 97, 15, 98, 99, 100, 14, 101, 31, 33, 102, 103, 104, 105, 34, 36, 37, 38, 39, 40, 41, 42, 43, 44, 45, 46, 47, 138, 139, 140, 141, 142, 143, 144, 145, 146, 147, 148, 149, 48, 49, 50, 51, 52, 53, 54, 55, 56, 57, 58, 59, 60, 61, 110, 111, 112, 113, 21, 114, 115, 116, 20, 117, 69, 68, 67, 118, 664, 665, 666, 667, 668, 669, 680, 681, 682, 683, 684, 685, 686, 687, 688, 689, 690, 691, 692, 693, 694, 695, 696, 697] (by decide +kernel) (by decide +kernel)
set_option maxRecDepth 20000 in
theorem gL_law_X3_setHead : GoodIn wsL_law (wsV RL 18 RX3 yX3_setHead wsX3_setHead) := goodIn_app (goodIn_of _ (by decide +kernel)) ggL_law_X3_setHead
set_option maxRecDepth 20000 in
theorem ggL_law_X4_setHead : GoodIn wsL_law wsX4_setHead := goodIn_r _ [153, 84, 154, 155, 5, 156, 123, 124, 125, 157, 158, 159, 160, 126, 127, 128, 129, 130, 88, 670, 671, 672, 673, 674, 675, 676, 677, 678, 679] (by decide +kernel) (by decide +kernel)
set_option maxRecDepth 20000 in
theorem gL_law_X4_setHead : GoodIn wsL_law (wsV RL 22 RX4 yX4_setHead wsX4_setHead) := goodIn_app (goodIn_of _ (by decide +kernel)) ggL_law_X4_setHead
set_option maxRecDepth 20000 in
theorem ggL_law_X3_read : GoodIn wsL_law wsX3_read := goodIn_r _ [164, 16, 94, 95, 96, 2, 97, 15, 98, 99, 100, 14, 101, 31, 33, 102, 103, 104, 105, 34, 36, 37, 38, 39, 40, 41, 42, 43, 44, 45, 46, 47, 165, 166, 167, 168, 52, 53, 54, 55, 56, 57, 58, 59, 60, 61, 169, 170, 171, 172, 173, 174, 175, 176, 177, 178, 179, 180, 181, 182, 183, 184, 185, 186, 187, 188, 189, 190, 191, 192, 193, 194, 195, 196, 197, 198, 199, 200, 201, 202, 203, 204, 205, 206, 207, 208, 209, 210, 211, 212, 213, 214, 215, 216, 217, 218, 219, 220, 221, 222, 223, 224, 225, 226, 227, 228, 229, 230, 231, 232, 233, 234, 235, 236, 237, 238, 239, 240, 110, 111, 112, 113, 21, 114, 115, 116, 20, 117, 69, 68, 67, 118, 664, 665, 666, 667, 668, 669, 680, 681, 682, 683, 684, 685, 686, 687, 688, 689, 690, 691, 692, 693, 694, 695, 696, 697] (by decide +kernel) (by decide +kernel)
set_option maxRecDepth 20000 in
theorem gL_law_X3_read : GoodIn wsL_law (wsV RL 23 RX3 yX3_read wsX3_read) := goodIn_app (goodIn_of _ (by decide +kernel)) ggL_law_X3_read
set_option maxRecDepth 20000 in
theorem ggL_law_X4_read : GoodIn wsL_law wsX4_read := goodIn_r _ [244, 84, 85, 245, 246, 5, 247, 248, 249, 250, 251, 252, 253, 254, 255, 123, 124, 125, 256, 257, 258, 259, 260, 261, 262, 263, 264, 265, 266, 267, 268, 269, 270, 271, 272, 273, 274, 275, 276, 277, 278, 279, 280, 281, 282, 283, 284, 285, 286, 287, 288, 289, 290, 291, 292, 293, 294, 295, 296, 297, 298, 299, 300, 301, 302, 303, 304, 305, 306, 307, 126, 127, 128, 129, 130, 88, 670, 671, 672, 673, 674, 675, 676, 677, 678, 679] (by decide +kernel) (by decide +kernel)
set_option maxRecDepth 20000 in
theorem gL_law_X4_read : GoodIn wsL_law (wsV RL 26 RX4 yX4_read wsX4_read) := goodIn_app (goodIn_of _ (by decide +kernel)) ggL_law_X4_read
set_option maxRecDepth 20000 in
theorem ggL_law_X3_write : GoodIn wsL_law wsX3_write := goodIn_r _ [311, 16, 94, 95, 96, 2, 97, 15, 98, 99, 100, 14, 101, 31, 33, 102, 103, 104, 105, 34, 36, 37, 38, 39, 40, 41, 42, 43, 44, 45, 46, 47, 312, 313, 314, 315, 52, 53, 54, 55, 56, 57, 58, 59, 60, 61, 169, 170, 171, 172, 201, 202, 203, 204, 205, 206, 207, 208, 209, 210, 211, 212, 197, 198, 199, 200, 213, 214, 215, 216, 217, 218, 219, 220, 221, 222, 223, 224, 173, 174, 175, 176, 177, 178, 179, 180, 181, 182, 183, 184, 185, 186, 187, 188, 229, 230, 231, 232, 193, 194, 195, 196, 225, 226, 227, 228, 233, 234, 235, 236, 237, 238, 239, 240, 110, 111, 112, 113, 21, 114, 115, 116, 20, 117, 69, 68, 67, 118, 664, 665, 666, 667, 668, 669, 680, 681, 682, 683, 684, 685, 686, 687, 688, 689, 690, 691, 692, 693, 694, 695, 696, 697] (by decide +kernel) (by decide +kernel)
set_option maxRecDepth 20000 in
theorem gL_law_X3_write : GoodIn wsL_law (wsV RL 27 RX3 yX3_write wsX3_write) := goodIn_app (goodIn_of _ (by decide +kernel)) ggL_law_X3_write
set_option maxRecDepth 20000 in
theorem ggL_law_X4_write : GoodIn wsL_law wsX4_write := goodIn_r _ [319, 84, 85, 245, 246, 5, 247, 320, 321, 322, 323, 252, 253, 254, 255, 123, 124, 125, 256, 257, 258, 259, 260, 261, 262, 263, 288, 289, 290, 291, 292, 293, 294, 295, 296, 297, 298, 299, 284, 285, 286, 287, 300, 301, 302, 303, 304, 305, 306, 307, 264, 265, 266, 267, 268, 269, 270, 271, 272, 273, 274, 275, 276, 277, 278, 279, 280, 281, 282, 283, 126, 127, 128, 129, 130, 88, 670, 671, 672, 673, 674, 675, 676, 677, 678, 679] (by decide +kernel) (by decide +kernel)
set_option maxRecDepth 20000 in
theorem gL_law_X4_write : GoodIn wsL_law (wsV RL 31 RX4 yX4_write wsX4_write) := goodIn_app (goodIn_of _ (by decide +kernel)) ggL_law_X4_write
set_option maxRecDepth 20000 in
theorem ggL_law_X3_copy : GoodIn wsL_law wsX3_copy := goodIn_r _ [327, 15, 16, 328, 53, 54, 14, 55, 34, 56, 2, 57, 58, 59, 60, 61, 94, 95, 96, 97, 98, 99, 100, 101, 31, 33, 102, 103, 104, 105, 36, 37, 38, 39, 40, 41, 42, 43, 44, 45, 46, 47, 329, 330, 331, 332, 333, 166, 167, 168, 52, 169, 170, 171, 172, 173, 174, 175, 176, 177, 178, 179, 180, 181, 182, 183, 184, 185, 186, 187, 188, 189, 190, 191, 192, 193, 194, 195, 196, 197, 198, 199, 200, 201, 202, 203, 204, 205, 206, 207, 208, 209, 210, 211, 212, 213, 214, 215, 216, 217, 218, 219, 220, 221, 222, 223, 224, 225, 226, 227, 228, 229, 230, 231, 232, 233, 234, 235, 236, 237, 238, 239, 240, 334, 313, 314, 315, 110, 111, 112, 113, 21, 114, 115, 116, 20, 117, 69, 68, 67, 118, 664, 665, 666, 667, 668, 669, 680, 681, 682, 683, 684, 685, 686, 687, 688, 689, 690, 691, 692, 693, 694, 695, 696, 697] (by decide +kernel) (by decide +kernel)
set_option maxRecDepth 20000 in
theorem gL_law_X3_copy : GoodIn wsL_law (wsV RL 32 RX3 yX3_copy wsX3_copy) := goodIn_app (goodIn_of _ (by decide +kernel)) ggL_law_X3_copy
set_option maxRecDepth 20000 in
theorem ggL_law_X4_copy : GoodIn wsL_law wsX4_copy := goodIn_r _ [338, 84, 85, 252, 253, 254, 5, 255, 123, 124, 125, 256, 257, 258, 259, 245, 246, 247, 339, 340, 341, 342, 86, 248, 249, 250, 251, 260, 261, 262, 263, 264, 265, 266, 267, 268, 269, 270, 271, 272, 273, 274, 275, 276, 277, 278, 279, 280, 281, 282, 283, 284, 285, 286, 287, 288, 289, 290, 291, 292, 293, 294, 295, 296, 297, 298, 299, 300, 301, 302, 303, 304, 305, 306, 307, 320, 321, 322, 323, 126, 127, 128, 129, 130, 88, 670, 671, 672, 673, 674, 675, 676, 677, 678, 679] (by decide +kernel) (by decide +kernel)
set_option maxRecDepth 20000 in
theorem gL_law_X4_copy : GoodIn wsL_law (wsV RL 36 RX4 yX4_copy wsX4_copy) := goodIn_app (goodIn_of _ (by decide +kernel)) ggL_law_X4_copy
set_option maxRecDepth 20000 in
theorem ggL_law_X3_test : GoodIn wsL_law wsX3_test := goodIn_r _ [346, 16, 135, 136, 2, 137, 94, 95, 96, 97, 15, 98, 99, 100, 14, 101, 31, 33, 102, 103, 104, 105, 34, 36, 37, 38, 39, 40, 41, 42, 43, 44, 45, 46, 47, 347, 348, 349, 350, 351, 352, 353, 354, 169, 170, 171, 172, 333, 166, 167, 168, 52, 53, 54, 55, 56, 57, 58, 59, 60, 61, 173, 174, 175, 176, 177, 178, 179, 180, 181, 182, 183, 184, 185, 186, 187, 188, 189, 190, 191, 192, 193, 194, 195, 196, 197, 198, 199, 200, 201, 202, 203, 204, 205, 206, 207, 208, 209, 210, 211, 212, 213, 214, 215, 216, 217, 218, 219, 220, 221, 222, 223, 224, 225, 226, 227, 228, 229, 230, 231, 232, 233, 234, 235, 236, 237, 238, 239, 240, 110, 111, 112, 113, 21, 114, 115, 116, 20, 117, 69, 68, 67, 118, 664, 665, 666, 667, 668, 669, 680, 681, 682, 683, 684, 685, 686, 687, 688, 689, 690, 691, 692, 693, 694, 695, 696, 697] (by decide +kernel) (by decide +kernel)
set_option maxRecDepth 20000 in
theorem gL_law_X3_test : GoodIn wsL_law (wsV RL 37 RX3 yX3_test wsX3_test) := goodIn_app (goodIn_of _ (by decide +kernel)) ggL_law_X3_test
set_option maxRecDepth 20000 in
theorem ggL_law_X4_test : GoodIn wsL_law wsX4_test := goodIn_r _ [358, 84, 154, 155, 5, 156, 123, 124, 125, 359, 360, 361, 362, 252, 253, 254, 255, 256, 257, 258, 259, 260, 261, 262, 263, 126, 127, 128, 129, 130, 88, 248, 249, 250, 251, 264, 265, 266, 267, 268, 269, 270, 271, 272, 273, 274, 275, 276, 277, 278, 279, 280, 281, 282, 283, 284, 285, 286, 287, 288, 289, 290, 291, 292, 293, 294, 295, 296, 297, 298, 299, 300, 301, 302, 303, 304, 305, 306, 307, 670, 671, 672, 673, 674, 675, 676, 677, 678, 679] (by decide +kernel) (by decide +kernel)
set_option maxRecDepth 20000 in
theorem gL_law_X4_test : GoodIn wsL_law (wsV RL 40 RX4 yX4_test wsX4_test) := goodIn_app (goodIn_of _ (by decide +kernel)) ggL_law_X4_test
set_option maxRecDepth 20000 in
theorem ggL_law_X3_perform : GoodIn wsL_law wsX3_perform := goodIn_r _ [366, 25, 16, 367, 368, 369, 24, 370, 79, 78, 371, 372, 373, 374, 375, 376, 377, 378, 379, 380, 381, 382, 75, 74, 383, 384, 385, 386, 387, 388, 389, 390, 391, 392, 393, 394, 76, 77, 94, 95, 96, 2, 97, 15, 98, 99, 100, 14, 101, 31, 33, 102, 103, 104, 105, 34, 36, 37, 38, 39, 40, 41, 42, 43, 44, 45, 46, 47, 395, 396, 397, 398, 399, 400, 401, 402, 403, 404, 405, 406, 165, 166, 167, 168, 52, 53, 54, 55, 56, 57, 58, 59, 60, 61, 169, 170, 171, 172, 173, 174, 175, 176, 177, 178, 179, 180, 181, 182, 183, 184, 185, 186, 187, 188, 189, 190, 191, 192, 193, 194, 195, 196, 197, 198, 199, 200, 201, 202, 203, 204, 205, 206, 207, 208, 209, 210, 211, 212, 213, 214, 215, 216, 217, 218, 219, 220, 221, 222, 223, 224, 225, 226, 227, 228, 229, 230, 231, 232, 233, 234, 235, 236, 237, 238, 239, 240, 312, 313, 314, 315, 110, 111, 112, 113, 21, 114, 115, 116, 20, 117, 69, 68, 67, 118, 664, 665, 666, 667, 668, 669, 698, 699, 700, 701, 702, 703, 680, 681, 682, 683, 684, 685, 686, 687, 688, 689, 690, 691, 692, 693, 694, 695, 696, 697] (by decide +kernel) (by decide +kernel)
set_option maxRecDepth 20000 in
theorem gL_law_X3_perform : GoodIn wsL_law (wsV RL 41 RX3 yX3_perform wsX3_perform) := goodIn_app (goodIn_of _ (by decide +kernel)) ggL_law_X3_perform
set_option maxRecDepth 20000 in
theorem ggL_law_X4_perform : GoodIn wsL_law wsX4_perform := goodIn_r _ [410, 411, 84, 85, 412, 413, 414, 5, 415, 416, 417, 418, 419, 420, 421, 422, 423, 424, 89, 425, 426, 427, 428, 123, 124, 125, 248, 249, 250, 251, 252, 253, 254, 255, 256, 257, 258, 259, 260, 261, 262, 263, 264, 265, 266, 267, 268, 269, 270, 271, 272, 273, 274, 275, 276, 277, 278, 279, 280, 281, 282, 283, 284, 285, 286, 287, 288, 289, 290, 291, 292, 293, 294, 295, 296, 297, 298, 299, 300, 301, 302, 303, 304, 305, 306, 307, 320, 321, 322, 323, 245, 246, 247, 126, 127, 128, 129, 130, 88, 670, 671, 672, 673, 674, 675, 676, 677, 678, 679] (by decide +kernel) (by decide +kernel)
set_option maxRecDepth 20000 in
theorem gL_law_X4_perform : GoodIn wsL_law (wsV RL 45 RX4 yX4_perform wsX4_perform) := goodIn_app (goodIn_of _ (by decide +kernel)) ggL_law_X4_perform
set_option maxRecDepth 20000 in
theorem ggL_law_X3_giveBack : GoodIn wsL_law wsX3_giveBack := goodIn_r _ [432, 16, 94, 95, 96, 2, 97, 15, 98, 99, 100, 14, 101, 31, 33, 102, 103, 104, 105, 34, 36, 37, 38, 39, 40, 41, 42, 43, 44, 45, 46, 47, 433, 434, 435, 436, 52, 53, 54, 55, 56, 57, 58, 59, 60, 61, 437, 438, 439, 440, 169, 170, 171, 172, 197, 198, 199, 200, 173, 174, 175, 176, 177, 178, 179, 180, 181, 182, 183, 184, 185, 186, 187, 188, 225, 226, 227, 228, 229, 230, 231, 232, 217, 218, 219, 220, 221, 222, 223, 224, 110, 111, 112, 113, 21, 114, 115, 116, 20, 117, 69, 68, 67, 118, 664, 665, 666, 667, 668, 669, 680, 681, 682, 683, 684, 685, 686, 687, 688, 689, 690, 691, 692, 693, 694, 695, 696, 697] (by decide +kernel) (by decide +kernel)
set_option maxRecDepth 20000 in
theorem gL_law_X3_giveBack : GoodIn wsL_law (wsV RL 46 RX3 yX3_giveBack wsX3_giveBack) := goodIn_app (goodIn_of _ (by decide +kernel)) ggL_law_X3_giveBack
set_option maxRecDepth 20000 in
theorem ggL_law_X4_giveBack : GoodIn wsL_law wsX4_giveBack := goodIn_r _ [444, 84, 252, 253, 254, 5, 255, 123, 124, 125, 256, 257, 258, 259, 284, 285, 286, 287, 126, 127, 128, 129, 130, 88, 264, 265, 266, 267, 268, 269, 270, 271, 272, 273, 274, 275, 276, 277, 278, 279, 670, 671, 672, 673, 674, 675, 676, 677, 678, 679] (by decide +kernel) (by decide +kernel)
set_option maxRecDepth 20000 in
theorem gL_law_X4_giveBack : GoodIn wsL_law (wsV RL 49 RX4 yX4_giveBack wsX4_giveBack) := goodIn_app (goodIn_of _ (by decide +kernel)) ggL_law_X4_giveBack
set_option maxRecDepth 20000 in
theorem ggL_law_X3_giveUp : GoodIn wsL_law wsX3_giveUp := goodIn_r _ [448, 15, 16, 135, 136, 2, 137, 449, 450, 451, 14, 452, 36, 453, 454, 455, 456, 94, 95, 96, 97, 98, 99, 100, 101, 31, 33, 102, 103, 104, 105, 34, 37, 38, 39, 40, 41, 42, 43, 44, 45, 46, 47, 457, 458, 459, 460, 52, 53, 54, 55, 56, 57, 58, 59, 60, 61, 169, 170, 171, 172, 461, 462, 463, 464, 201, 202, 203, 204, 205, 206, 207, 208, 209, 210, 211, 212, 197, 198, 199, 200, 213, 214, 215, 216, 237, 238, 239, 240, 221, 222, 223, 224, 217, 218, 219, 220, 229, 230, 231, 232, 110, 111, 112, 113, 21, 114, 115, 116, 20, 117, 69, 68, 67, 118, 664, 665, 666, 667, 668, 669, 680, 681, 682, 683, 684, 685, 686, 687, 688, 689, 690, 691, 692, 693, 694, 695, 696, 697] (by decide +kernel) (by decide +kernel)
set_option maxRecDepth 20000 in
theorem gL_law_X3_giveUp : GoodIn wsL_law (wsV RL 50 RX3 yX3_giveUp wsX3_giveUp) := goodIn_app (goodIn_of _ (by decide +kernel)) ggL_law_X3_giveUp
set_option maxRecDepth 20000 in
theorem ggL_law_X4_giveUp : GoodIn wsL_law wsX4_giveUp := goodIn_r _ [468, 84, 154, 155, 5, 156, 123, 124, 125, 126, 127, 128, 129, 130, 88, 469, 470, 471, 472, 252, 253, 254, 255, 256, 257, 258, 259, 260, 261, 262, 263, 288, 289, 290, 291, 292, 293, 294, 295, 296, 297, 298, 299, 284, 285, 286, 287, 300, 301, 302, 303, 304, 305, 306, 307, 275, 276, 277, 278, 279, 670, 671, 672, 673, 674, 675, 676, 677, 678, 679] (by decide +kernel) (by decide +kernel)
set_option maxRecDepth 20000 in
theorem gL_law_X4_giveUp : GoodIn wsL_law (wsV RL 53 RX4 yX4_giveUp wsX4_giveUp) := goodIn_app (goodIn_of _ (by decide +kernel)) ggL_law_X4_giveUp
set_option maxRecDepth 20000 in
theorem ggL_law_X3_type : GoodIn wsL_law wsX3_type := goodIn_r _ [476, 25, 477, 478, 479, 24, 480, 75, 74, 664, 665, 666, 667, 668, 669, 698, 699, 700, 701, 702, 703] (by decide +kernel) (by decide +kernel)
set_option maxRecDepth 20000 in
theorem gL_law_X3_type : GoodIn wsL_law (wsV RL 54 RX3 yX3_type wsX3_type) := goodIn_app (goodIn_of _ (by decide +kernel)) ggL_law_X3_type
set_option maxRecDepth 20000 in
theorem ggL_law_X4_type : GoodIn wsL_law wsX4_type := goodIn_r _ [484, 416, 89, 670, 671, 672, 673, 674, 675, 676, 677, 678, 679] (by decide +kernel) (by decide +kernel)
set_option maxRecDepth 20000 in
theorem gL_law_X4_type : GoodIn wsL_law (wsV RL 58 RX4 yX4_type wsX4_type) := goodIn_app (goodIn_of _ (by decide +kernel)) ggL_law_X4_type
set_option maxRecDepth 20000 in
theorem ggL_law_X3_clearText : GoodIn wsL_law wsX3_clearText := goodIn_r _ [488, 25, 489, 490, 491, 24, 492, 75, 664, 665, 666, 667, 668, 669, 698, 699, 700, 701, 702, 703] (by decide +kernel) (by decide +kernel)
set_option maxRecDepth 20000 in
theorem gL_law_X3_clearText : GoodIn wsL_law (wsV RL 59 RX3 yX3_clearText wsX3_clearText) := goodIn_app (goodIn_of _ (by decide +kernel)) ggL_law_X3_clearText
set_option maxRecDepth 20000 in
theorem ggL_law_X4_clearText : GoodIn wsL_law wsX4_clearText := goodIn_r _ [496, 416, 670, 671, 672, 673, 674, 675, 676, 677, 678, 679] (by decide +kernel) (by decide +kernel)
set_option maxRecDepth 20000 in
theorem gL_law_X4_clearText : GoodIn wsL_law (wsV RL 62 RX4 yX4_clearText wsX4_clearText) := goodIn_app (goodIn_of _ (by decide +kernel)) ggL_law_X4_clearText
set_option maxRecDepth 20000 in
theorem ggL_law_X3_undo : GoodIn wsL_law wsX3_undo := goodIn_r _ [500, 21, 15, 501, 502, 503, 20, 504, 69, 505, 506, 507, 508, 67, 68, 118, 99, 100, 14, 101, 31, 33, 102, 103, 104, 105, 34, 36, 37, 38, 39, 40, 41, 42, 43, 44, 45, 46, 47, 664, 665, 666, 667, 668, 669, 695, 696, 697, 680, 681, 682, 683, 684, 685, 686, 687, 688, 689, 690, 691, 692, 693, 694] (by decide +kernel) (by decide +kernel)
set_option maxRecDepth 20000 in
theorem gL_law_X3_undo : GoodIn wsL_law (wsV RL 63 RX3 yX3_undo wsX3_undo) := goodIn_app (goodIn_of _ (by decide +kernel)) ggL_law_X3_undo
set_option maxRecDepth 20000 in
theorem ggL_law_X4_undo : GoodIn wsL_law wsX4_undo := goodIn_r _ [512, 130, 84, 88, 670, 671, 672, 673, 674, 675, 676, 677, 678, 679] (by decide +kernel) (by decide +kernel)
set_option maxRecDepth 20000 in
theorem gL_law_X4_undo : GoodIn wsL_law (wsV RL 66 RX4 yX4_undo wsX4_undo) := goodIn_app (goodIn_of _ (by decide +kernel)) ggL_law_X4_undo
set_option maxRecDepth 20000 in
theorem ggL_law_X3_keep : GoodIn wsL_law wsX3_keep := goodIn_r _ [516, 17, 15, 26, 98, 99, 100, 14, 101, 31, 33, 102, 103, 104, 105, 34, 36, 37, 38, 39, 40, 41, 42, 43, 44, 45, 46, 47, 517, 518, 519, 520, 664, 665, 666, 667, 668, 669, 680, 681, 682, 683, 684, 685, 686, 687, 688, 689, 690, 691, 692, 693, 694] (by decide +kernel) (by decide +kernel)
set_option maxRecDepth 20000 in
theorem gL_law_X3_keep : GoodIn wsL_law (wsV RL 67 RX3 yX3_keep wsX3_keep) := goodIn_app (goodIn_of _ (by decide +kernel)) ggL_law_X3_keep
set_option maxRecDepth 20000 in
theorem ggL_law_X4_keep : GoodIn wsL_law wsX4_keep := goodIn_r _ [524, 84, 87, 525, 245, 246, 5, 247, 670, 671, 672, 673, 674, 675, 676, 677, 678, 679] (by decide +kernel) (by decide +kernel)
set_option maxRecDepth 20000 in
theorem gL_law_X4_keep : GoodIn wsL_law (wsV RL 70 RX4 yX4_keep wsX4_keep) := goodIn_app (goodIn_of _ (by decide +kernel)) ggL_law_X4_keep
set_option maxRecDepth 20000 in
theorem ggL_law_X3_restore : GoodIn wsL_law wsX3_restore := goodIn_r _ [529, 26, 16, 17, 98, 99, 100, 14, 101, 31, 33, 102, 103, 104, 105, 34, 36, 37, 38, 39, 40, 41, 42, 43, 44, 45, 46, 47, 517, 518, 519, 520, 110, 111, 112, 2, 113, 21, 15, 114, 115, 116, 20, 117, 69, 68, 67, 118, 664, 665, 666, 667, 668, 669, 680, 681, 682, 683, 684, 685, 686, 687, 688, 689, 690, 691, 692, 693, 694, 695, 696, 697] (by decide +kernel) (by decide +kernel)
set_option maxRecDepth 20000 in
theorem gL_law_X3_restore : GoodIn wsL_law (wsV RL 71 RX3 yX3_restore wsX3_restore) := goodIn_app (goodIn_of _ (by decide +kernel)) ggL_law_X3_restore
set_option maxRecDepth 20000 in
theorem ggL_law_X4_restore : GoodIn wsL_law wsX4_restore := goodIn_r _ [533, 525, 84, 87, 126, 127, 128, 5, 129, 130, 88, 245, 246, 247, 670, 671, 672, 673, 674, 675, 676, 677, 678, 679] (by decide +kernel) (by decide +kernel)
set_option maxRecDepth 20000 in
theorem gL_law_X4_restore : GoodIn wsL_law (wsV RL 74 RX4 yX4_restore wsX4_restore) := goodIn_app (goodIn_of _ (by decide +kernel)) ggL_law_X4_restore
set_option maxRecDepth 20000 in
theorem ggL_law_X3_address : GoodIn wsL_law wsX3_address := goodIn_r _ [537, 15, 328, 53, 54, 14, 55, 34, 56, 2, 57, 58, 59, 60, 61, 538, 539, 540, 541, 38, 40, 39, 169, 170, 171, 172, 437, 438, 439, 440, 201, 202, 203, 204, 205, 206, 207, 208, 209, 210, 211, 212, 41, 36, 197, 198, 199, 200, 37, 31, 213, 214, 215, 216, 177, 178, 179, 180, 42, 181, 182, 183, 184, 185, 186, 187, 188, 664, 665, 666, 667, 668, 669, 680, 681, 682, 683, 684, 685, 686, 687, 688, 689, 690, 691, 692, 693, 694] (by decide +kernel) (by decide +kernel)
set_option maxRecDepth 20000 in
theorem gL_law_X3_address : GoodIn wsL_law (wsV RL 75 RX3 yX3_address wsX3_address) := goodIn_app (goodIn_of _ (by decide +kernel)) ggL_law_X3_address
set_option maxRecDepth 20000 in
theorem ggL_law_X4_address : GoodIn wsL_law wsX4_address := goodIn_r _ [545, 84, 252, 253, 254, 5, 255, 123, 124, 125, 256, 257, 258, 259, 260, 261, 262, 263, 288, 289, 290, 291, 292, 293, 294, 295, 296, 297, 298, 299, 284, 285, 286, 287, 300, 301, 302, 303, 304, 305, 306, 307, 546, 547, 548, 549, 272, 273, 274, 670, 671, 672, 673, 674, 675, 676, 677, 678, 679] (by decide +kernel) (by decide +kernel)
set_option maxRecDepth 20000 in
theorem gL_law_X4_address : GoodIn wsL_law (wsV RL 78 RX4 yX4_address wsX4_address) := goodIn_app (goodIn_of _ (by decide +kernel)) ggL_law_X4_address
set_option maxRecDepth 20000 in
theorem ggL_law_X3_sector : GoodIn wsL_law wsX3_sector := goodIn_r _ [553, 15, 554, 56, 2, 57, 555, 556, 557, 14, 558, 37, 41, 559, 560, 561, 562, 197, 198, 199, 200, 31, 233, 234, 235, 236, 52, 53, 54, 55, 34, 58, 59, 60, 61, 209, 210, 211, 212, 36, 664, 665, 666, 667, 668, 669, 680, 681, 682, 683, 684, 685, 686, 687, 688, 689, 690, 691, 692, 693, 694] (by decide +kernel) (by decide +kernel)
set_option maxRecDepth 20000 in
theorem gL_law_X3_sector : GoodIn wsL_law (wsV RL 79 RX3 yX3_sector wsX3_sector) := goodIn_app (goodIn_of _ (by decide +kernel)) ggL_law_X3_sector
set_option maxRecDepth 20000 in
theorem ggL_law_X4_sector : GoodIn wsL_law wsX4_sector := goodIn_r _ [566, 84, 123, 124, 5, 125, 284, 285, 286, 287, 256, 257, 258, 259, 300, 301, 302, 303, 252, 253, 254, 255, 296, 297, 298, 299, 670, 671, 672, 673, 674, 675, 676, 677, 678, 679] (by decide +kernel) (by decide +kernel)
set_option maxRecDepth 20000 in
theorem gL_law_X4_sector : GoodIn wsL_law (wsV RL 82 RX4 yX4_sector wsX4_sector) := goodIn_app (goodIn_of _ (by decide +kernel)) ggL_law_X4_sector
set_option maxRecDepth 20000 in
theorem ggL_law_X3_head : GoodIn wsL_law wsX3_head := goodIn_r _ [570, 15, 135, 136, 2, 137, 571, 572, 573, 14, 574, 33, 34, 36, 41, 40, 213, 214, 215, 216, 209, 210, 211, 212, 60, 61, 58, 59, 197, 198, 199, 200, 37, 31, 575, 576, 577, 578, 351, 352, 353, 354, 169, 170, 171, 172, 146, 147, 148, 149, 579, 580, 581, 582, 559, 560, 561, 562, 233, 234, 235, 236, 664, 665, 666, 667, 668, 669, 680, 681, 682, 683, 684, 685, 686, 687, 688, 689, 690, 691, 692, 693, 694] (by decide +kernel) (by decide +kernel)
set_option maxRecDepth 20000 in
theorem gL_law_X3_head : GoodIn wsL_law (wsV RL 83 RX3 yX3_head wsX3_head) := goodIn_app (goodIn_of _ (by decide +kernel)) ggL_law_X3_head
set_option maxRecDepth 20000 in
theorem ggL_law_X4_head : GoodIn wsL_law wsX4_head := goodIn_r _ [586, 84, 154, 155, 5, 156, 123, 124, 125, 304, 305, 306, 307, 296, 297, 298, 299, 256, 257, 258, 259, 284, 285, 286, 287, 300, 301, 302, 303, 252, 253, 254, 255, 587, 588, 589, 590, 260, 261, 262, 263, 359, 360, 361, 362, 157, 158, 159, 160, 591, 592, 593, 594, 670, 671, 672, 673, 674, 675, 676, 677, 678, 679] (by decide +kernel) (by decide +kernel)
set_option maxRecDepth 20000 in
theorem gL_law_X4_head : GoodIn wsL_law (wsV RL 86 RX4 yX4_head wsX4_head) := goodIn_app (goodIn_of _ (by decide +kernel)) ggL_law_X4_head
set_option maxRecDepth 20000 in
theorem ggL_law_X3_readsLeft : GoodIn wsL_law wsX3_readsLeft := goodIn_r _ [598, 15, 599, 600, 601, 14, 602, 40, 31, 37, 33, 52, 53, 54, 55, 34, 56, 2, 57, 58, 59, 60, 61, 169, 170, 171, 172, 201, 202, 203, 204, 205, 206, 207, 208, 209, 210, 211, 212, 41, 36, 197, 198, 199, 200, 213, 214, 215, 216, 664, 665, 666, 667, 668, 669, 680, 681, 682, 683, 684, 685, 686, 687, 688, 689, 690, 691, 692, 693, 694] (by decide +kernel) (by decide +kernel)
set_option maxRecDepth 20000 in
theorem gL_law_X3_readsLeft : GoodIn wsL_law (wsV RL 87 RX3 yX3_readsLeft wsX3_readsLeft) := goodIn_app (goodIn_of _ (by decide +kernel)) ggL_law_X3_readsLeft
set_option maxRecDepth 20000 in
theorem ggL_law_X4_readsLeft : GoodIn wsL_law wsX4_readsLeft := goodIn_r _ [606, 84, 85, 252, 253, 254, 5, 255, 123, 124, 125, 256, 257, 258, 259, 245, 246, 247, 248, 249, 250, 251, 260, 261, 262, 263, 264, 265, 266, 267, 268, 269, 270, 271, 272, 273, 274, 275, 276, 277, 278, 279, 280, 281, 282, 283, 284, 285, 286, 287, 288, 289, 290, 291, 292, 293, 294, 295, 296, 297, 298, 299, 300, 301, 302, 303, 304, 305, 306, 307, 670, 671, 672, 673, 674, 675, 676, 677, 678, 679] (by decide +kernel) (by decide +kernel)
set_option maxRecDepth 20000 in
theorem gL_law_X4_readsLeft : GoodIn wsL_law (wsV RL 90 RX4 yX4_readsLeft wsX4_readsLeft) := goodIn_app (goodIn_of _ (by decide +kernel)) ggL_law_X4_readsLeft
set_option maxRecDepth 20000 in
theorem ggL_law_X3_wouldLose : GoodIn wsL_law wsX3_wouldLose := goodIn_r _ [610, 15, 16, 135, 136, 2, 137, 453, 454, 455, 14, 456, 36, 94, 95, 96, 97, 98, 99, 100, 101, 31, 33, 102, 103, 104, 105, 34, 37, 38, 39, 40, 41, 42, 43, 44, 45, 46, 47, 457, 458, 459, 460, 52, 53, 54, 55, 56, 57, 58, 59, 60, 61, 169, 170, 171, 172, 461, 462, 463, 464, 201, 202, 203, 204, 205, 206, 207, 208, 209, 210, 211, 212, 197, 198, 199, 200, 213, 214, 215, 216, 237, 238, 239, 240, 221, 222, 223, 224, 217, 218, 219, 220, 229, 230, 231, 232, 664, 665, 666, 667, 668, 669, 680, 681, 682, 683, 684, 685, 686, 687, 688, 689, 690, 691, 692, 693, 694] (by decide +kernel) (by decide +kernel)
set_option maxRecDepth 20000 in
theorem gL_law_X3_wouldLose : GoodIn wsL_law (wsV RL 91 RX3 yX3_wouldLose wsX3_wouldLose) := goodIn_app (goodIn_of _ (by decide +kernel)) ggL_law_X3_wouldLose
set_option maxRecDepth 20000 in
theorem ggL_law_X4_wouldLose : GoodIn wsL_law wsX4_wouldLose := goodIn_r _ [614, 84, 85, 154, 155, 5, 156, 123, 124, 125, 245, 246, 247, 469, 470, 471, 472, 252, 253, 254, 255, 256, 257, 258, 259, 260, 261, 262, 263, 288, 289, 290, 291, 292, 293, 294, 295, 296, 297, 298, 299, 284, 285, 286, 287, 300, 301, 302, 303, 304, 305, 306, 307, 275, 276, 277, 278, 279, 670, 671, 672, 673, 674, 675, 676, 677, 678, 679] (by decide +kernel) (by decide +kernel)
set_option maxRecDepth 20000 in
theorem gL_law_X4_wouldLose : GoodIn wsL_law (wsV RL 94 RX4 yX4_wouldLose wsX4_wouldLose) := goodIn_app (goodIn_of _ (by decide +kernel)) ggL_law_X4_wouldLose
set_option maxRecDepth 20000 in
theorem ggL_law_X3_worst : GoodIn wsL_law wsX3_worst := goodIn_r _ [618, 15, 619, 620, 621, 14, 622, 623, 624, 625, 626, 52, 53, 54, 55, 34, 56, 2, 57, 58, 59, 60, 61, 169, 170, 171, 172, 40, 627, 628, 629, 630, 37, 664, 665, 666, 667, 668, 669, 680, 681, 682, 683, 684, 685, 686, 687, 688, 689, 690, 691, 692, 693, 694] (by decide +kernel) (by decide +kernel)
set_option maxRecDepth 20000 in
theorem gL_law_X3_worst : GoodIn wsL_law (wsV RL 95 RX3 yX3_worst wsX3_worst) := goodIn_app (goodIn_of _ (by decide +kernel)) ggL_law_X3_worst
set_option maxRecDepth 20000 in
theorem ggL_law_X4_worst : GoodIn wsL_law wsX4_worst := goodIn_r _ [634, 252, 253, 254, 5, 255, 123, 124, 125, 256, 257, 258, 259, 84, 260, 261, 262, 263, 635, 636, 637, 638, 670, 671, 672, 673, 674, 675, 676, 677, 678, 679] (by decide +kernel) (by decide +kernel)
set_option maxRecDepth 20000 in
theorem gL_law_X4_worst : GoodIn wsL_law (wsV RL 98 RX4 yX4_worst wsX4_worst) := goodIn_app (goodIn_of _ (by decide +kernel)) ggL_law_X4_worst
set_option maxRecDepth 20000 in
theorem ggL_law_X3_count : GoodIn wsL_law wsX3_count := goodIn_r _ [642, 21, 25, 15, 501, 502, 503, 20, 504, 69, 643, 644, 645, 24, 646, 75, 647, 648, 649, 14, 650, 31, 42, 43, 44, 45, 46, 47, 651, 652, 653, 654, 655, 572, 573, 574, 33, 34, 36, 41, 40, 213, 214, 215, 216, 209, 210, 211, 212, 60, 2, 61, 58, 59, 197, 198, 199, 200, 37, 575, 576, 577, 578, 351, 352, 353, 354, 169, 170, 171, 172, 146, 147, 148, 149, 579, 580, 581, 582, 559, 560, 561, 562, 233, 234, 235, 236, 656, 657, 658, 659, 52, 53, 54, 55, 56, 57, 437, 438, 439, 440, 664, 665, 666, 667, 668, 669, 695, 696, 697, 698, 699, 700, 701, 702, 703, 680, 681, 682, 683, 684, 685, 686, 687, 688, 689, 690, 691, 692, 693, 694] (by decide +kernel) (by decide +kernel)
set_option maxRecDepth 20000 in
theorem gL_law_X3_count : GoodIn wsL_law (wsV RL 99 RX3 yX3_count wsX3_count) := goodIn_app (goodIn_of _ (by decide +kernel)) ggL_law_X3_count
set_option maxRecDepth 20000 in
theorem ggL_law_X4_count : GoodIn wsL_law wsX4_count := goodIn_r _ [663, 84, 130, 416, 123, 124, 5, 125, 252, 253, 254, 255, 256, 257, 258, 259, 260, 261, 262, 263, 296, 297, 298, 299, 284, 285, 286, 287, 300, 301, 302, 303, 670, 671, 672, 673, 674, 675, 676, 677, 678, 679] (by decide +kernel) (by decide +kernel)
set_option maxRecDepth 20000 in
theorem gL_law_X4_count : GoodIn wsL_law (wsV RL 102 RX4 yX4_count wsX4_count) := goodIn_app (goodIn_of _ (by decide +kernel)) ggL_law_X4_count
theorem dL_law_0 : decode cL_law 0 = .ok (.new 7, 3) := by decide +kernel
theorem dL_law_3 : decode cL_law 3 = .ok (.dup, 1) := by decide +kernel
theorem dL_law_4 : decode cL_law 4 = .ok (.invokespecial 9, 3) := by decide +kernel
theorem dL_law_7 : decode cL_law 7 = .ok (.astore_n 1, 1) := by decide +kernel
theorem dL_law_8 : decode cL_law 8 = .ok (.new 10, 3) := by decide +kernel
theorem dL_law_11 : decode cL_law 11 = .ok (.dup, 1) := by decide +kernel
theorem dL_law_12 : decode cL_law 12 = .ok (.invokespecial 12, 3) := by decide +kernel
theorem dL_law_15 : decode cL_law 15 = .ok (.astore_n 2, 1) := by decide +kernel
theorem dL_law_16 : decode cL_law 16 = .ok (.iconst 0, 1) := by decide +kernel
theorem dL_law_17 : decode cL_law 17 = .ok (.istore_n 3, 1) := by decide +kernel
theorem dL_law_18 : decode cL_law 18 = .ok (.iload_n 3, 1) := by decide +kernel
theorem dL_law_19 : decode cL_law 19 = .ok (.aload_n 0, 1) := by decide +kernel
theorem dL_law_20 : decode cL_law 20 = .ok (.arraylength, 1) := by decide +kernel
theorem dL_law_21 : decode cL_law 21 = .ok (.iconst 4, 1) := by decide +kernel
theorem dL_law_22 : decode cL_law 22 = .ok (.isub, 1) := by decide +kernel
theorem dL_law_23 : decode cL_law 23 = .ok (.if_icmp .gt 646, 3) := by decide +kernel
theorem dL_law_26 : decode cL_law 26 = .ok (.aload_n 0, 1) := by decide +kernel
theorem dL_law_27 : decode cL_law 27 = .ok (.iload_n 3, 1) := by decide +kernel
theorem dL_law_28 : decode cL_law 28 = .ok (.iaload, 1) := by decide +kernel
theorem dL_law_29 : decode cL_law 29 = .ok (.bipush 31, 2) := by decide +kernel
theorem dL_law_31 : decode cL_law 31 = .ok (.iand, 1) := by decide +kernel
theorem dL_law_32 : decode cL_law 32 = .ok (.tableswitch 631 0 20 #[100, 123, 182, 205, 238, 281, 304, 317, 340, 363, 388, 401, 414, 427, 440, 473, 506, 539, 562, 585, 608], 100) := by decide +kernel
theorem dL_law_132 : decode cL_law 132 = .ok (.aload_n 1, 1) := by decide +kernel
theorem dL_law_133 : decode cL_law 133 = .ok (.aload_n 0, 1) := by decide +kernel
theorem dL_law_134 : decode cL_law 134 = .ok (.iload_n 3, 1) := by decide +kernel
theorem dL_law_135 : decode cL_law 135 = .ok (.iconst 1, 1) := by decide +kernel
theorem dL_law_136 : decode cL_law 136 = .ok (.iadd, 1) := by decide +kernel
theorem dL_law_137 : decode cL_law 137 = .ok (.iaload, 1) := by decide +kernel
theorem dL_law_138 : decode cL_law 138 = .ok (.invokevirtual 13, 3) := by decide +kernel
theorem dL_law_141 : decode cL_law 141 = .ok (.aload_n 2, 1) := by decide +kernel
theorem dL_law_142 : decode cL_law 142 = .ok (.aload_n 0, 1) := by decide +kernel
theorem dL_law_143 : decode cL_law 143 = .ok (.iload_n 3, 1) := by decide +kernel
theorem dL_law_144 : decode cL_law 144 = .ok (.iconst 1, 1) := by decide +kernel
theorem dL_law_145 : decode cL_law 145 = .ok (.iadd, 1) := by decide +kernel
theorem dL_law_146 : decode cL_law 146 = .ok (.iaload, 1) := by decide +kernel
theorem dL_law_147 : decode cL_law 147 = .ok (.invokevirtual 17, 3) := by decide +kernel
theorem dL_law_150 : decode cL_law 150 = .ok (.if_icmp .eq 513, 3) := by decide +kernel
theorem dL_law_153 : decode cL_law 153 = .ok (.iconst 0, 1) := by decide +kernel
theorem dL_law_154 : decode cL_law 154 = .ok (.ireturn, 1) := by decide +kernel
theorem dL_law_155 : decode cL_law 155 = .ok (.aload_n 1, 1) := by decide +kernel
theorem dL_law_156 : decode cL_law 156 = .ok (.aload_n 0, 1) := by decide +kernel
theorem dL_law_157 : decode cL_law 157 = .ok (.iload_n 3, 1) := by decide +kernel
theorem dL_law_158 : decode cL_law 158 = .ok (.iconst 1, 1) := by decide +kernel
theorem dL_law_159 : decode cL_law 159 = .ok (.iadd, 1) := by decide +kernel
theorem dL_law_160 : decode cL_law 160 = .ok (.iaload, 1) := by decide +kernel
theorem dL_law_161 : decode cL_law 161 = .ok (.aload_n 0, 1) := by decide +kernel
theorem dL_law_162 : decode cL_law 162 = .ok (.iload_n 3, 1) := by decide +kernel
theorem dL_law_163 : decode cL_law 163 = .ok (.iconst 2, 1) := by decide +kernel
theorem dL_law_164 : decode cL_law 164 = .ok (.iadd, 1) := by decide +kernel
theorem dL_law_165 : decode cL_law 165 = .ok (.iaload, 1) := by decide +kernel
theorem dL_law_166 : decode cL_law 166 = .ok (.ifCond .eq 7, 3) := by decide +kernel
theorem dL_law_169 : decode cL_law 169 = .ok (.iconst 1, 1) := by decide +kernel
theorem dL_law_170 : decode cL_law 170 = .ok (.goto 4, 3) := by decide +kernel
theorem dL_law_173 : decode cL_law 173 = .ok (.iconst 0, 1) := by decide +kernel
theorem dL_law_174 : decode cL_law 174 = .ok (.aload_n 0, 1) := by decide +kernel
theorem dL_law_175 : decode cL_law 175 = .ok (.iload_n 3, 1) := by decide +kernel
theorem dL_law_176 : decode cL_law 176 = .ok (.iconst 3, 1) := by decide +kernel
theorem dL_law_177 : decode cL_law 177 = .ok (.iadd, 1) := by decide +kernel
theorem dL_law_178 : decode cL_law 178 = .ok (.iaload, 1) := by decide +kernel
theorem dL_law_179 : decode cL_law 179 = .ok (.invokevirtual 18, 3) := by decide +kernel
theorem dL_law_182 : decode cL_law 182 = .ok (.aload_n 2, 1) := by decide +kernel
theorem dL_law_183 : decode cL_law 183 = .ok (.aload_n 0, 1) := by decide +kernel
theorem dL_law_184 : decode cL_law 184 = .ok (.iload_n 3, 1) := by decide +kernel
theorem dL_law_185 : decode cL_law 185 = .ok (.iconst 1, 1) := by decide +kernel
theorem dL_law_186 : decode cL_law 186 = .ok (.iadd, 1) := by decide +kernel
theorem dL_law_187 : decode cL_law 187 = .ok (.iaload, 1) := by decide +kernel
theorem dL_law_188 : decode cL_law 188 = .ok (.aload_n 0, 1) := by decide +kernel
theorem dL_law_189 : decode cL_law 189 = .ok (.iload_n 3, 1) := by decide +kernel
theorem dL_law_190 : decode cL_law 190 = .ok (.iconst 2, 1) := by decide +kernel
theorem dL_law_191 : decode cL_law 191 = .ok (.iadd, 1) := by decide +kernel
theorem dL_law_192 : decode cL_law 192 = .ok (.iaload, 1) := by decide +kernel
theorem dL_law_193 : decode cL_law 193 = .ok (.ifCond .eq 7, 3) := by decide +kernel
theorem dL_law_196 : decode cL_law 196 = .ok (.iconst 1, 1) := by decide +kernel
theorem dL_law_197 : decode cL_law 197 = .ok (.goto 4, 3) := by decide +kernel
theorem dL_law_200 : decode cL_law 200 = .ok (.iconst 0, 1) := by decide +kernel
theorem dL_law_201 : decode cL_law 201 = .ok (.aload_n 0, 1) := by decide +kernel
theorem dL_law_202 : decode cL_law 202 = .ok (.iload_n 3, 1) := by decide +kernel
theorem dL_law_203 : decode cL_law 203 = .ok (.iconst 3, 1) := by decide +kernel
theorem dL_law_204 : decode cL_law 204 = .ok (.iadd, 1) := by decide +kernel
theorem dL_law_205 : decode cL_law 205 = .ok (.iaload, 1) := by decide +kernel
theorem dL_law_206 : decode cL_law 206 = .ok (.invokevirtual 22, 3) := by decide +kernel
theorem dL_law_209 : decode cL_law 209 = .ok (.if_icmp .eq 454, 3) := by decide +kernel
theorem dL_law_212 : decode cL_law 212 = .ok (.iconst 0, 1) := by decide +kernel
theorem dL_law_213 : decode cL_law 213 = .ok (.ireturn, 1) := by decide +kernel
theorem dL_law_214 : decode cL_law 214 = .ok (.aload_n 1, 1) := by decide +kernel
theorem dL_law_215 : decode cL_law 215 = .ok (.aload_n 0, 1) := by decide +kernel
theorem dL_law_216 : decode cL_law 216 = .ok (.iload_n 3, 1) := by decide +kernel
theorem dL_law_217 : decode cL_law 217 = .ok (.iconst 1, 1) := by decide +kernel
theorem dL_law_218 : decode cL_law 218 = .ok (.iadd, 1) := by decide +kernel
theorem dL_law_219 : decode cL_law 219 = .ok (.iaload, 1) := by decide +kernel
theorem dL_law_220 : decode cL_law 220 = .ok (.invokevirtual 23, 3) := by decide +kernel
theorem dL_law_223 : decode cL_law 223 = .ok (.aload_n 2, 1) := by decide +kernel
theorem dL_law_224 : decode cL_law 224 = .ok (.aload_n 0, 1) := by decide +kernel
theorem dL_law_225 : decode cL_law 225 = .ok (.iload_n 3, 1) := by decide +kernel
theorem dL_law_226 : decode cL_law 226 = .ok (.iconst 1, 1) := by decide +kernel
theorem dL_law_227 : decode cL_law 227 = .ok (.iadd, 1) := by decide +kernel
theorem dL_law_228 : decode cL_law 228 = .ok (.iaload, 1) := by decide +kernel
theorem dL_law_229 : decode cL_law 229 = .ok (.invokevirtual 26, 3) := by decide +kernel
theorem dL_law_232 : decode cL_law 232 = .ok (.if_icmp .eq 431, 3) := by decide +kernel
theorem dL_law_235 : decode cL_law 235 = .ok (.iconst 0, 1) := by decide +kernel
theorem dL_law_236 : decode cL_law 236 = .ok (.ireturn, 1) := by decide +kernel
theorem dL_law_237 : decode cL_law 237 = .ok (.aload_n 1, 1) := by decide +kernel
theorem dL_law_238 : decode cL_law 238 = .ok (.aload_n 0, 1) := by decide +kernel
theorem dL_law_239 : decode cL_law 239 = .ok (.iload_n 3, 1) := by decide +kernel
theorem dL_law_240 : decode cL_law 240 = .ok (.iconst 1, 1) := by decide +kernel
theorem dL_law_241 : decode cL_law 241 = .ok (.iadd, 1) := by decide +kernel
theorem dL_law_242 : decode cL_law 242 = .ok (.iaload, 1) := by decide +kernel
theorem dL_law_243 : decode cL_law 243 = .ok (.aload_n 0, 1) := by decide +kernel
theorem dL_law_244 : decode cL_law 244 = .ok (.iload_n 3, 1) := by decide +kernel
theorem dL_law_245 : decode cL_law 245 = .ok (.iconst 2, 1) := by decide +kernel
theorem dL_law_246 : decode cL_law 246 = .ok (.iadd, 1) := by decide +kernel
theorem dL_law_247 : decode cL_law 247 = .ok (.iaload, 1) := by decide +kernel
theorem dL_law_248 : decode cL_law 248 = .ok (.invokevirtual 27, 3) := by decide +kernel
theorem dL_law_251 : decode cL_law 251 = .ok (.aload_n 2, 1) := by decide +kernel
theorem dL_law_252 : decode cL_law 252 = .ok (.aload_n 0, 1) := by decide +kernel
theorem dL_law_253 : decode cL_law 253 = .ok (.iload_n 3, 1) := by decide +kernel
theorem dL_law_254 : decode cL_law 254 = .ok (.iconst 1, 1) := by decide +kernel
theorem dL_law_255 : decode cL_law 255 = .ok (.iadd, 1) := by decide +kernel
theorem dL_law_256 : decode cL_law 256 = .ok (.iaload, 1) := by decide +kernel
theorem dL_law_257 : decode cL_law 257 = .ok (.aload_n 0, 1) := by decide +kernel
theorem dL_law_258 : decode cL_law 258 = .ok (.iload_n 3, 1) := by decide +kernel
theorem dL_law_259 : decode cL_law 259 = .ok (.iconst 2, 1) := by decide +kernel
theorem dL_law_260 : decode cL_law 260 = .ok (.iadd, 1) := by decide +kernel
theorem dL_law_261 : decode cL_law 261 = .ok (.iaload, 1) := by decide +kernel
theorem dL_law_262 : decode cL_law 262 = .ok (.invokevirtual 31, 3) := by decide +kernel
theorem dL_law_265 : decode cL_law 265 = .ok (.if_icmp .eq 398, 3) := by decide +kernel
theorem dL_law_268 : decode cL_law 268 = .ok (.iconst 0, 1) := by decide +kernel
theorem dL_law_269 : decode cL_law 269 = .ok (.ireturn, 1) := by decide +kernel
theorem dL_law_270 : decode cL_law 270 = .ok (.aload_n 1, 1) := by decide +kernel
theorem dL_law_271 : decode cL_law 271 = .ok (.aload_n 0, 1) := by decide +kernel
theorem dL_law_272 : decode cL_law 272 = .ok (.iload_n 3, 1) := by decide +kernel
theorem dL_law_273 : decode cL_law 273 = .ok (.iconst 1, 1) := by decide +kernel
theorem dL_law_274 : decode cL_law 274 = .ok (.iadd, 1) := by decide +kernel
theorem dL_law_275 : decode cL_law 275 = .ok (.iaload, 1) := by decide +kernel
theorem dL_law_276 : decode cL_law 276 = .ok (.aload_n 0, 1) := by decide +kernel
theorem dL_law_277 : decode cL_law 277 = .ok (.iload_n 3, 1) := by decide +kernel
theorem dL_law_278 : decode cL_law 278 = .ok (.iconst 2, 1) := by decide +kernel
theorem dL_law_279 : decode cL_law 279 = .ok (.iadd, 1) := by decide +kernel
theorem dL_law_280 : decode cL_law 280 = .ok (.iaload, 1) := by decide +kernel
theorem dL_law_281 : decode cL_law 281 = .ok (.aload_n 0, 1) := by decide +kernel
theorem dL_law_282 : decode cL_law 282 = .ok (.iload_n 3, 1) := by decide +kernel
theorem dL_law_283 : decode cL_law 283 = .ok (.iconst 3, 1) := by decide +kernel
theorem dL_law_284 : decode cL_law 284 = .ok (.iadd, 1) := by decide +kernel
theorem dL_law_285 : decode cL_law 285 = .ok (.iaload, 1) := by decide +kernel
theorem dL_law_286 : decode cL_law 286 = .ok (.invokevirtual 32, 3) := by decide +kernel
theorem dL_law_289 : decode cL_law 289 = .ok (.aload_n 2, 1) := by decide +kernel
theorem dL_law_290 : decode cL_law 290 = .ok (.aload_n 0, 1) := by decide +kernel
theorem dL_law_291 : decode cL_law 291 = .ok (.iload_n 3, 1) := by decide +kernel
theorem dL_law_292 : decode cL_law 292 = .ok (.iconst 1, 1) := by decide +kernel
theorem dL_law_293 : decode cL_law 293 = .ok (.iadd, 1) := by decide +kernel
theorem dL_law_294 : decode cL_law 294 = .ok (.iaload, 1) := by decide +kernel
theorem dL_law_295 : decode cL_law 295 = .ok (.aload_n 0, 1) := by decide +kernel
theorem dL_law_296 : decode cL_law 296 = .ok (.iload_n 3, 1) := by decide +kernel
theorem dL_law_297 : decode cL_law 297 = .ok (.iconst 2, 1) := by decide +kernel
theorem dL_law_298 : decode cL_law 298 = .ok (.iadd, 1) := by decide +kernel
theorem dL_law_299 : decode cL_law 299 = .ok (.iaload, 1) := by decide +kernel
theorem dL_law_300 : decode cL_law 300 = .ok (.aload_n 0, 1) := by decide +kernel
theorem dL_law_301 : decode cL_law 301 = .ok (.iload_n 3, 1) := by decide +kernel
theorem dL_law_302 : decode cL_law 302 = .ok (.iconst 3, 1) := by decide +kernel
theorem dL_law_303 : decode cL_law 303 = .ok (.iadd, 1) := by decide +kernel
theorem dL_law_304 : decode cL_law 304 = .ok (.iaload, 1) := by decide +kernel
theorem dL_law_305 : decode cL_law 305 = .ok (.invokevirtual 36, 3) := by decide +kernel
theorem dL_law_308 : decode cL_law 308 = .ok (.if_icmp .eq 355, 3) := by decide +kernel
theorem dL_law_311 : decode cL_law 311 = .ok (.iconst 0, 1) := by decide +kernel
theorem dL_law_312 : decode cL_law 312 = .ok (.ireturn, 1) := by decide +kernel
theorem dL_law_313 : decode cL_law 313 = .ok (.aload_n 1, 1) := by decide +kernel
theorem dL_law_314 : decode cL_law 314 = .ok (.aload_n 0, 1) := by decide +kernel
theorem dL_law_315 : decode cL_law 315 = .ok (.iload_n 3, 1) := by decide +kernel
theorem dL_law_316 : decode cL_law 316 = .ok (.iconst 1, 1) := by decide +kernel
theorem dL_law_317 : decode cL_law 317 = .ok (.iadd, 1) := by decide +kernel
theorem dL_law_318 : decode cL_law 318 = .ok (.iaload, 1) := by decide +kernel
theorem dL_law_319 : decode cL_law 319 = .ok (.invokevirtual 37, 3) := by decide +kernel
theorem dL_law_322 : decode cL_law 322 = .ok (.aload_n 2, 1) := by decide +kernel
theorem dL_law_323 : decode cL_law 323 = .ok (.aload_n 0, 1) := by decide +kernel
theorem dL_law_324 : decode cL_law 324 = .ok (.iload_n 3, 1) := by decide +kernel
theorem dL_law_325 : decode cL_law 325 = .ok (.iconst 1, 1) := by decide +kernel
theorem dL_law_326 : decode cL_law 326 = .ok (.iadd, 1) := by decide +kernel
theorem dL_law_327 : decode cL_law 327 = .ok (.iaload, 1) := by decide +kernel
theorem dL_law_328 : decode cL_law 328 = .ok (.invokevirtual 40, 3) := by decide +kernel
theorem dL_law_331 : decode cL_law 331 = .ok (.if_icmp .eq 332, 3) := by decide +kernel
theorem dL_law_334 : decode cL_law 334 = .ok (.iconst 0, 1) := by decide +kernel
theorem dL_law_335 : decode cL_law 335 = .ok (.ireturn, 1) := by decide +kernel
theorem dL_law_336 : decode cL_law 336 = .ok (.aload_n 1, 1) := by decide +kernel
theorem dL_law_337 : decode cL_law 337 = .ok (.invokevirtual 41, 3) := by decide +kernel
theorem dL_law_340 : decode cL_law 340 = .ok (.aload_n 2, 1) := by decide +kernel
theorem dL_law_341 : decode cL_law 341 = .ok (.invokevirtual 45, 3) := by decide +kernel
theorem dL_law_344 : decode cL_law 344 = .ok (.if_icmp .eq 319, 3) := by decide +kernel
theorem dL_law_347 : decode cL_law 347 = .ok (.iconst 0, 1) := by decide +kernel
theorem dL_law_348 : decode cL_law 348 = .ok (.ireturn, 1) := by decide +kernel
theorem dL_law_349 : decode cL_law 349 = .ok (.aload_n 1, 1) := by decide +kernel
theorem dL_law_350 : decode cL_law 350 = .ok (.aload_n 0, 1) := by decide +kernel
theorem dL_law_351 : decode cL_law 351 = .ok (.iload_n 3, 1) := by decide +kernel
theorem dL_law_352 : decode cL_law 352 = .ok (.iconst 1, 1) := by decide +kernel
theorem dL_law_353 : decode cL_law 353 = .ok (.iadd, 1) := by decide +kernel
theorem dL_law_354 : decode cL_law 354 = .ok (.iaload, 1) := by decide +kernel
theorem dL_law_355 : decode cL_law 355 = .ok (.invokevirtual 46, 3) := by decide +kernel
theorem dL_law_358 : decode cL_law 358 = .ok (.aload_n 2, 1) := by decide +kernel
theorem dL_law_359 : decode cL_law 359 = .ok (.aload_n 0, 1) := by decide +kernel
theorem dL_law_360 : decode cL_law 360 = .ok (.iload_n 3, 1) := by decide +kernel
theorem dL_law_361 : decode cL_law 361 = .ok (.iconst 1, 1) := by decide +kernel
theorem dL_law_362 : decode cL_law 362 = .ok (.iadd, 1) := by decide +kernel
theorem dL_law_363 : decode cL_law 363 = .ok (.iaload, 1) := by decide +kernel
theorem dL_law_364 : decode cL_law 364 = .ok (.invokevirtual 49, 3) := by decide +kernel
theorem dL_law_367 : decode cL_law 367 = .ok (.if_icmp .eq 296, 3) := by decide +kernel
theorem dL_law_370 : decode cL_law 370 = .ok (.iconst 0, 1) := by decide +kernel
theorem dL_law_371 : decode cL_law 371 = .ok (.ireturn, 1) := by decide +kernel
theorem dL_law_372 : decode cL_law 372 = .ok (.aload_n 1, 1) := by decide +kernel
theorem dL_law_373 : decode cL_law 373 = .ok (.aload_n 0, 1) := by decide +kernel
theorem dL_law_374 : decode cL_law 374 = .ok (.iload_n 3, 1) := by decide +kernel
theorem dL_law_375 : decode cL_law 375 = .ok (.iconst 1, 1) := by decide +kernel
theorem dL_law_376 : decode cL_law 376 = .ok (.iadd, 1) := by decide +kernel
theorem dL_law_377 : decode cL_law 377 = .ok (.iaload, 1) := by decide +kernel
theorem dL_law_378 : decode cL_law 378 = .ok (.invokevirtual 50, 3) := by decide +kernel
theorem dL_law_381 : decode cL_law 381 = .ok (.aload_n 2, 1) := by decide +kernel
theorem dL_law_382 : decode cL_law 382 = .ok (.aload_n 0, 1) := by decide +kernel
theorem dL_law_383 : decode cL_law 383 = .ok (.iload_n 3, 1) := by decide +kernel
theorem dL_law_384 : decode cL_law 384 = .ok (.iconst 1, 1) := by decide +kernel
theorem dL_law_385 : decode cL_law 385 = .ok (.iadd, 1) := by decide +kernel
theorem dL_law_386 : decode cL_law 386 = .ok (.iaload, 1) := by decide +kernel
theorem dL_law_387 : decode cL_law 387 = .ok (.invokevirtual 53, 3) := by decide +kernel
theorem dL_law_390 : decode cL_law 390 = .ok (.if_icmp .eq 273, 3) := by decide +kernel
theorem dL_law_393 : decode cL_law 393 = .ok (.iconst 0, 1) := by decide +kernel
theorem dL_law_394 : decode cL_law 394 = .ok (.ireturn, 1) := by decide +kernel
theorem dL_law_395 : decode cL_law 395 = .ok (.aload_n 1, 1) := by decide +kernel
theorem dL_law_396 : decode cL_law 396 = .ok (.aload_n 0, 1) := by decide +kernel
theorem dL_law_397 : decode cL_law 397 = .ok (.iload_n 3, 1) := by decide +kernel
theorem dL_law_398 : decode cL_law 398 = .ok (.iconst 1, 1) := by decide +kernel
theorem dL_law_399 : decode cL_law 399 = .ok (.iadd, 1) := by decide +kernel
theorem dL_law_400 : decode cL_law 400 = .ok (.iaload, 1) := by decide +kernel
theorem dL_law_401 : decode cL_law 401 = .ok (.i2c, 1) := by decide +kernel
theorem dL_law_402 : decode cL_law 402 = .ok (.invokevirtual 54, 3) := by decide +kernel
theorem dL_law_405 : decode cL_law 405 = .ok (.aload_n 2, 1) := by decide +kernel
theorem dL_law_406 : decode cL_law 406 = .ok (.aload_n 0, 1) := by decide +kernel
theorem dL_law_407 : decode cL_law 407 = .ok (.iload_n 3, 1) := by decide +kernel
theorem dL_law_408 : decode cL_law 408 = .ok (.iconst 1, 1) := by decide +kernel
theorem dL_law_409 : decode cL_law 409 = .ok (.iadd, 1) := by decide +kernel
theorem dL_law_410 : decode cL_law 410 = .ok (.iaload, 1) := by decide +kernel
theorem dL_law_411 : decode cL_law 411 = .ok (.i2c, 1) := by decide +kernel
theorem dL_law_412 : decode cL_law 412 = .ok (.invokevirtual 58, 3) := by decide +kernel
theorem dL_law_415 : decode cL_law 415 = .ok (.if_icmp .eq 248, 3) := by decide +kernel
theorem dL_law_418 : decode cL_law 418 = .ok (.iconst 0, 1) := by decide +kernel
theorem dL_law_419 : decode cL_law 419 = .ok (.ireturn, 1) := by decide +kernel
theorem dL_law_420 : decode cL_law 420 = .ok (.aload_n 1, 1) := by decide +kernel
theorem dL_law_421 : decode cL_law 421 = .ok (.invokevirtual 59, 3) := by decide +kernel
theorem dL_law_424 : decode cL_law 424 = .ok (.aload_n 2, 1) := by decide +kernel
theorem dL_law_425 : decode cL_law 425 = .ok (.invokevirtual 62, 3) := by decide +kernel
theorem dL_law_428 : decode cL_law 428 = .ok (.if_icmp .eq 235, 3) := by decide +kernel
theorem dL_law_431 : decode cL_law 431 = .ok (.iconst 0, 1) := by decide +kernel
theorem dL_law_432 : decode cL_law 432 = .ok (.ireturn, 1) := by decide +kernel
theorem dL_law_433 : decode cL_law 433 = .ok (.aload_n 1, 1) := by decide +kernel
theorem dL_law_434 : decode cL_law 434 = .ok (.invokevirtual 63, 3) := by decide +kernel
theorem dL_law_437 : decode cL_law 437 = .ok (.aload_n 2, 1) := by decide +kernel
theorem dL_law_438 : decode cL_law 438 = .ok (.invokevirtual 66, 3) := by decide +kernel
theorem dL_law_441 : decode cL_law 441 = .ok (.if_icmp .eq 222, 3) := by decide +kernel
theorem dL_law_444 : decode cL_law 444 = .ok (.iconst 0, 1) := by decide +kernel
theorem dL_law_445 : decode cL_law 445 = .ok (.ireturn, 1) := by decide +kernel
theorem dL_law_446 : decode cL_law 446 = .ok (.aload_n 1, 1) := by decide +kernel
theorem dL_law_447 : decode cL_law 447 = .ok (.invokevirtual 67, 3) := by decide +kernel
theorem dL_law_450 : decode cL_law 450 = .ok (.aload_n 2, 1) := by decide +kernel
theorem dL_law_451 : decode cL_law 451 = .ok (.invokevirtual 70, 3) := by decide +kernel
theorem dL_law_454 : decode cL_law 454 = .ok (.if_icmp .eq 209, 3) := by decide +kernel
theorem dL_law_457 : decode cL_law 457 = .ok (.iconst 0, 1) := by decide +kernel
theorem dL_law_458 : decode cL_law 458 = .ok (.ireturn, 1) := by decide +kernel
theorem dL_law_459 : decode cL_law 459 = .ok (.aload_n 1, 1) := by decide +kernel
theorem dL_law_460 : decode cL_law 460 = .ok (.invokevirtual 71, 3) := by decide +kernel
theorem dL_law_463 : decode cL_law 463 = .ok (.aload_n 2, 1) := by decide +kernel
theorem dL_law_464 : decode cL_law 464 = .ok (.invokevirtual 74, 3) := by decide +kernel
theorem dL_law_467 : decode cL_law 467 = .ok (.if_icmp .eq 196, 3) := by decide +kernel
theorem dL_law_470 : decode cL_law 470 = .ok (.iconst 0, 1) := by decide +kernel
theorem dL_law_471 : decode cL_law 471 = .ok (.ireturn, 1) := by decide +kernel
theorem dL_law_472 : decode cL_law 472 = .ok (.aload_n 1, 1) := by decide +kernel
theorem dL_law_473 : decode cL_law 473 = .ok (.aload_n 0, 1) := by decide +kernel
theorem dL_law_474 : decode cL_law 474 = .ok (.iload_n 3, 1) := by decide +kernel
theorem dL_law_475 : decode cL_law 475 = .ok (.iconst 1, 1) := by decide +kernel
theorem dL_law_476 : decode cL_law 476 = .ok (.iadd, 1) := by decide +kernel
theorem dL_law_477 : decode cL_law 477 = .ok (.iaload, 1) := by decide +kernel
theorem dL_law_478 : decode cL_law 478 = .ok (.aload_n 0, 1) := by decide +kernel
theorem dL_law_479 : decode cL_law 479 = .ok (.iload_n 3, 1) := by decide +kernel
theorem dL_law_480 : decode cL_law 480 = .ok (.iconst 2, 1) := by decide +kernel
theorem dL_law_481 : decode cL_law 481 = .ok (.iadd, 1) := by decide +kernel
theorem dL_law_482 : decode cL_law 482 = .ok (.iaload, 1) := by decide +kernel
theorem dL_law_483 : decode cL_law 483 = .ok (.invokevirtual 75, 3) := by decide +kernel
theorem dL_law_486 : decode cL_law 486 = .ok (.aload_n 2, 1) := by decide +kernel
theorem dL_law_487 : decode cL_law 487 = .ok (.aload_n 0, 1) := by decide +kernel
theorem dL_law_488 : decode cL_law 488 = .ok (.iload_n 3, 1) := by decide +kernel
theorem dL_law_489 : decode cL_law 489 = .ok (.iconst 1, 1) := by decide +kernel
theorem dL_law_490 : decode cL_law 490 = .ok (.iadd, 1) := by decide +kernel
theorem dL_law_491 : decode cL_law 491 = .ok (.iaload, 1) := by decide +kernel
theorem dL_law_492 : decode cL_law 492 = .ok (.aload_n 0, 1) := by decide +kernel
theorem dL_law_493 : decode cL_law 493 = .ok (.iload_n 3, 1) := by decide +kernel
theorem dL_law_494 : decode cL_law 494 = .ok (.iconst 2, 1) := by decide +kernel
theorem dL_law_495 : decode cL_law 495 = .ok (.iadd, 1) := by decide +kernel
theorem dL_law_496 : decode cL_law 496 = .ok (.iaload, 1) := by decide +kernel
theorem dL_law_497 : decode cL_law 497 = .ok (.invokevirtual 78, 3) := by decide +kernel
theorem dL_law_500 : decode cL_law 500 = .ok (.if_icmp .eq 163, 3) := by decide +kernel
theorem dL_law_503 : decode cL_law 503 = .ok (.iconst 0, 1) := by decide +kernel
theorem dL_law_504 : decode cL_law 504 = .ok (.ireturn, 1) := by decide +kernel
theorem dL_law_505 : decode cL_law 505 = .ok (.aload_n 1, 1) := by decide +kernel
theorem dL_law_506 : decode cL_law 506 = .ok (.aload_n 0, 1) := by decide +kernel
theorem dL_law_507 : decode cL_law 507 = .ok (.iload_n 3, 1) := by decide +kernel
theorem dL_law_508 : decode cL_law 508 = .ok (.iconst 1, 1) := by decide +kernel
theorem dL_law_509 : decode cL_law 509 = .ok (.iadd, 1) := by decide +kernel
theorem dL_law_510 : decode cL_law 510 = .ok (.iaload, 1) := by decide +kernel
theorem dL_law_511 : decode cL_law 511 = .ok (.aload_n 0, 1) := by decide +kernel
theorem dL_law_512 : decode cL_law 512 = .ok (.iload_n 3, 1) := by decide +kernel
theorem dL_law_513 : decode cL_law 513 = .ok (.iconst 2, 1) := by decide +kernel
theorem dL_law_514 : decode cL_law 514 = .ok (.iadd, 1) := by decide +kernel
theorem dL_law_515 : decode cL_law 515 = .ok (.iaload, 1) := by decide +kernel
theorem dL_law_516 : decode cL_law 516 = .ok (.invokevirtual 79, 3) := by decide +kernel
theorem dL_law_519 : decode cL_law 519 = .ok (.aload_n 2, 1) := by decide +kernel
theorem dL_law_520 : decode cL_law 520 = .ok (.aload_n 0, 1) := by decide +kernel
theorem dL_law_521 : decode cL_law 521 = .ok (.iload_n 3, 1) := by decide +kernel
theorem dL_law_522 : decode cL_law 522 = .ok (.iconst 1, 1) := by decide +kernel
theorem dL_law_523 : decode cL_law 523 = .ok (.iadd, 1) := by decide +kernel
theorem dL_law_524 : decode cL_law 524 = .ok (.iaload, 1) := by decide +kernel
theorem dL_law_525 : decode cL_law 525 = .ok (.aload_n 0, 1) := by decide +kernel
theorem dL_law_526 : decode cL_law 526 = .ok (.iload_n 3, 1) := by decide +kernel
theorem dL_law_527 : decode cL_law 527 = .ok (.iconst 2, 1) := by decide +kernel
theorem dL_law_528 : decode cL_law 528 = .ok (.iadd, 1) := by decide +kernel
theorem dL_law_529 : decode cL_law 529 = .ok (.iaload, 1) := by decide +kernel
theorem dL_law_530 : decode cL_law 530 = .ok (.invokevirtual 82, 3) := by decide +kernel
theorem dL_law_533 : decode cL_law 533 = .ok (.if_icmp .eq 130, 3) := by decide +kernel
theorem dL_law_536 : decode cL_law 536 = .ok (.iconst 0, 1) := by decide +kernel
theorem dL_law_537 : decode cL_law 537 = .ok (.ireturn, 1) := by decide +kernel
theorem dL_law_538 : decode cL_law 538 = .ok (.aload_n 1, 1) := by decide +kernel
theorem dL_law_539 : decode cL_law 539 = .ok (.aload_n 0, 1) := by decide +kernel
theorem dL_law_540 : decode cL_law 540 = .ok (.iload_n 3, 1) := by decide +kernel
theorem dL_law_541 : decode cL_law 541 = .ok (.iconst 1, 1) := by decide +kernel
theorem dL_law_542 : decode cL_law 542 = .ok (.iadd, 1) := by decide +kernel
theorem dL_law_543 : decode cL_law 543 = .ok (.iaload, 1) := by decide +kernel
theorem dL_law_544 : decode cL_law 544 = .ok (.aload_n 0, 1) := by decide +kernel
theorem dL_law_545 : decode cL_law 545 = .ok (.iload_n 3, 1) := by decide +kernel
theorem dL_law_546 : decode cL_law 546 = .ok (.iconst 2, 1) := by decide +kernel
theorem dL_law_547 : decode cL_law 547 = .ok (.iadd, 1) := by decide +kernel
theorem dL_law_548 : decode cL_law 548 = .ok (.iaload, 1) := by decide +kernel
theorem dL_law_549 : decode cL_law 549 = .ok (.invokevirtual 83, 3) := by decide +kernel
theorem dL_law_552 : decode cL_law 552 = .ok (.aload_n 2, 1) := by decide +kernel
theorem dL_law_553 : decode cL_law 553 = .ok (.aload_n 0, 1) := by decide +kernel
theorem dL_law_554 : decode cL_law 554 = .ok (.iload_n 3, 1) := by decide +kernel
theorem dL_law_555 : decode cL_law 555 = .ok (.iconst 1, 1) := by decide +kernel
theorem dL_law_556 : decode cL_law 556 = .ok (.iadd, 1) := by decide +kernel
theorem dL_law_557 : decode cL_law 557 = .ok (.iaload, 1) := by decide +kernel
theorem dL_law_558 : decode cL_law 558 = .ok (.aload_n 0, 1) := by decide +kernel
theorem dL_law_559 : decode cL_law 559 = .ok (.iload_n 3, 1) := by decide +kernel
theorem dL_law_560 : decode cL_law 560 = .ok (.iconst 2, 1) := by decide +kernel
theorem dL_law_561 : decode cL_law 561 = .ok (.iadd, 1) := by decide +kernel
theorem dL_law_562 : decode cL_law 562 = .ok (.iaload, 1) := by decide +kernel
theorem dL_law_563 : decode cL_law 563 = .ok (.invokevirtual 86, 3) := by decide +kernel
theorem dL_law_566 : decode cL_law 566 = .ok (.if_icmp .eq 97, 3) := by decide +kernel
theorem dL_law_569 : decode cL_law 569 = .ok (.iconst 0, 1) := by decide +kernel
theorem dL_law_570 : decode cL_law 570 = .ok (.ireturn, 1) := by decide +kernel
theorem dL_law_571 : decode cL_law 571 = .ok (.aload_n 1, 1) := by decide +kernel
theorem dL_law_572 : decode cL_law 572 = .ok (.aload_n 0, 1) := by decide +kernel
theorem dL_law_573 : decode cL_law 573 = .ok (.iload_n 3, 1) := by decide +kernel
theorem dL_law_574 : decode cL_law 574 = .ok (.iconst 1, 1) := by decide +kernel
theorem dL_law_575 : decode cL_law 575 = .ok (.iadd, 1) := by decide +kernel
theorem dL_law_576 : decode cL_law 576 = .ok (.iaload, 1) := by decide +kernel
theorem dL_law_577 : decode cL_law 577 = .ok (.invokevirtual 87, 3) := by decide +kernel
theorem dL_law_580 : decode cL_law 580 = .ok (.aload_n 2, 1) := by decide +kernel
theorem dL_law_581 : decode cL_law 581 = .ok (.aload_n 0, 1) := by decide +kernel
theorem dL_law_582 : decode cL_law 582 = .ok (.iload_n 3, 1) := by decide +kernel
theorem dL_law_583 : decode cL_law 583 = .ok (.iconst 1, 1) := by decide +kernel
theorem dL_law_584 : decode cL_law 584 = .ok (.iadd, 1) := by decide +kernel
theorem dL_law_585 : decode cL_law 585 = .ok (.iaload, 1) := by decide +kernel
theorem dL_law_586 : decode cL_law 586 = .ok (.invokevirtual 90, 3) := by decide +kernel
theorem dL_law_589 : decode cL_law 589 = .ok (.if_icmp .eq 74, 3) := by decide +kernel
theorem dL_law_592 : decode cL_law 592 = .ok (.iconst 0, 1) := by decide +kernel
theorem dL_law_593 : decode cL_law 593 = .ok (.ireturn, 1) := by decide +kernel
theorem dL_law_594 : decode cL_law 594 = .ok (.aload_n 1, 1) := by decide +kernel
theorem dL_law_595 : decode cL_law 595 = .ok (.aload_n 0, 1) := by decide +kernel
theorem dL_law_596 : decode cL_law 596 = .ok (.iload_n 3, 1) := by decide +kernel
theorem dL_law_597 : decode cL_law 597 = .ok (.iconst 1, 1) := by decide +kernel
theorem dL_law_598 : decode cL_law 598 = .ok (.iadd, 1) := by decide +kernel
theorem dL_law_599 : decode cL_law 599 = .ok (.iaload, 1) := by decide +kernel
theorem dL_law_600 : decode cL_law 600 = .ok (.invokevirtual 91, 3) := by decide +kernel
theorem dL_law_603 : decode cL_law 603 = .ok (.aload_n 2, 1) := by decide +kernel
theorem dL_law_604 : decode cL_law 604 = .ok (.aload_n 0, 1) := by decide +kernel
theorem dL_law_605 : decode cL_law 605 = .ok (.iload_n 3, 1) := by decide +kernel
theorem dL_law_606 : decode cL_law 606 = .ok (.iconst 1, 1) := by decide +kernel
theorem dL_law_607 : decode cL_law 607 = .ok (.iadd, 1) := by decide +kernel
theorem dL_law_608 : decode cL_law 608 = .ok (.iaload, 1) := by decide +kernel
theorem dL_law_609 : decode cL_law 609 = .ok (.invokevirtual 94, 3) := by decide +kernel
theorem dL_law_612 : decode cL_law 612 = .ok (.if_icmp .eq 51, 3) := by decide +kernel
theorem dL_law_615 : decode cL_law 615 = .ok (.iconst 0, 1) := by decide +kernel
theorem dL_law_616 : decode cL_law 616 = .ok (.ireturn, 1) := by decide +kernel
theorem dL_law_617 : decode cL_law 617 = .ok (.aload_n 1, 1) := by decide +kernel
theorem dL_law_618 : decode cL_law 618 = .ok (.aload_n 0, 1) := by decide +kernel
theorem dL_law_619 : decode cL_law 619 = .ok (.iload_n 3, 1) := by decide +kernel
theorem dL_law_620 : decode cL_law 620 = .ok (.iconst 1, 1) := by decide +kernel
theorem dL_law_621 : decode cL_law 621 = .ok (.iadd, 1) := by decide +kernel
theorem dL_law_622 : decode cL_law 622 = .ok (.iaload, 1) := by decide +kernel
theorem dL_law_623 : decode cL_law 623 = .ok (.invokevirtual 95, 3) := by decide +kernel
theorem dL_law_626 : decode cL_law 626 = .ok (.aload_n 2, 1) := by decide +kernel
theorem dL_law_627 : decode cL_law 627 = .ok (.aload_n 0, 1) := by decide +kernel
theorem dL_law_628 : decode cL_law 628 = .ok (.iload_n 3, 1) := by decide +kernel
theorem dL_law_629 : decode cL_law 629 = .ok (.iconst 1, 1) := by decide +kernel
theorem dL_law_630 : decode cL_law 630 = .ok (.iadd, 1) := by decide +kernel
theorem dL_law_631 : decode cL_law 631 = .ok (.iaload, 1) := by decide +kernel
theorem dL_law_632 : decode cL_law 632 = .ok (.invokevirtual 98, 3) := by decide +kernel
theorem dL_law_635 : decode cL_law 635 = .ok (.if_icmp .eq 28, 3) := by decide +kernel
theorem dL_law_638 : decode cL_law 638 = .ok (.iconst 0, 1) := by decide +kernel
theorem dL_law_639 : decode cL_law 639 = .ok (.ireturn, 1) := by decide +kernel
theorem dL_law_640 : decode cL_law 640 = .ok (.aload_n 1, 1) := by decide +kernel
theorem dL_law_641 : decode cL_law 641 = .ok (.aload_n 0, 1) := by decide +kernel
theorem dL_law_642 : decode cL_law 642 = .ok (.iload_n 3, 1) := by decide +kernel
theorem dL_law_643 : decode cL_law 643 = .ok (.iconst 1, 1) := by decide +kernel
theorem dL_law_644 : decode cL_law 644 = .ok (.iadd, 1) := by decide +kernel
theorem dL_law_645 : decode cL_law 645 = .ok (.iaload, 1) := by decide +kernel
theorem dL_law_646 : decode cL_law 646 = .ok (.invokevirtual 99, 3) := by decide +kernel
theorem dL_law_649 : decode cL_law 649 = .ok (.aload_n 2, 1) := by decide +kernel
theorem dL_law_650 : decode cL_law 650 = .ok (.aload_n 0, 1) := by decide +kernel
theorem dL_law_651 : decode cL_law 651 = .ok (.iload_n 3, 1) := by decide +kernel
theorem dL_law_652 : decode cL_law 652 = .ok (.iconst 1, 1) := by decide +kernel
theorem dL_law_653 : decode cL_law 653 = .ok (.iadd, 1) := by decide +kernel
theorem dL_law_654 : decode cL_law 654 = .ok (.iaload, 1) := by decide +kernel
theorem dL_law_655 : decode cL_law 655 = .ok (.invokevirtual 102, 3) := by decide +kernel
theorem dL_law_658 : decode cL_law 658 = .ok (.if_icmp .eq 5, 3) := by decide +kernel
theorem dL_law_661 : decode cL_law 661 = .ok (.iconst 0, 1) := by decide +kernel
theorem dL_law_662 : decode cL_law 662 = .ok (.ireturn, 1) := by decide +kernel
theorem dL_law_663 : decode cL_law 663 = .ok (.iinc 3 4, 3) := by decide +kernel
theorem dL_law_666 : decode cL_law 666 = .ok (.goto (-648), 3) := by decide +kernel
theorem dL_law_669 : decode cL_law 669 = .ok (.iconst 1, 1) := by decide +kernel
theorem dL_law_670 : decode cL_law 670 = .ok (.ireturn, 1) := by decide +kernel
