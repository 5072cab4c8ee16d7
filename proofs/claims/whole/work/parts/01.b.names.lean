theorem dX0_init_0 : decode cX0_init 0 = .ok (.aload_n 0, 1) := by decide +kernel
theorem dX0_init_1 : decode cX0_init 1 = .ok (.invokespecial 3, 3) := by decide +kernel
theorem dX0_init_4 : decode cX0_init 4 = .ok (.aload_n 0, 1) := by decide +kernel
theorem dX0_init_5 : decode cX0_init 5 = .ok (.bipush 60, 2) := by decide +kernel
theorem dX0_init_7 : decode cX0_init 7 = .ok (.newarray .int, 2) := by decide +kernel
theorem dX0_init_9 : decode cX0_init 9 = .ok (.putfield 9, 3) := by decide +kernel
theorem dX0_init_12 : decode cX0_init 12 = .ok (.aload_n 0, 1) := by decide +kernel
theorem dX0_init_13 : decode cX0_init 13 = .ok (.iconst 0, 1) := by decide +kernel
theorem dX0_init_14 : decode cX0_init 14 = .ok (.putfield 15, 3) := by decide +kernel
theorem dX0_init_17 : decode cX0_init 17 = .ok (.aload_n 0, 1) := by decide +kernel
theorem dX0_init_18 : decode cX0_init 18 = .ok (.bipush 20, 2) := by decide +kernel
theorem dX0_init_20 : decode cX0_init 20 = .ok (.newarray .int, 2) := by decide +kernel
theorem dX0_init_22 : decode cX0_init 22 = .ok (.putfield 19, 3) := by decide +kernel
theorem dX0_init_25 : decode cX0_init 25 = .ok (.aload_n 0, 1) := by decide +kernel
theorem dX0_init_26 : decode cX0_init 26 = .ok (.bipush 20, 2) := by decide +kernel
theorem dX0_init_28 : decode cX0_init 28 = .ok (.newarray .int, 2) := by decide +kernel
theorem dX0_init_30 : decode cX0_init 30 = .ok (.putfield 22, 3) := by decide +kernel
theorem dX0_init_33 : decode cX0_init 33 = .ok (.aload_n 0, 1) := by decide +kernel
theorem dX0_init_34 : decode cX0_init 34 = .ok (.iconst 0, 1) := by decide +kernel
theorem dX0_init_35 : decode cX0_init 35 = .ok (.putfield 25, 3) := by decide +kernel
theorem dX0_init_38 : decode cX0_init 38 = .ok (.aload_n 0, 1) := by decide +kernel
theorem dX0_init_39 : decode cX0_init 39 = .ok (.iconst 0, 1) := by decide +kernel
theorem dX0_init_40 : decode cX0_init 40 = .ok (.putfield 28, 3) := by decide +kernel
theorem dX0_init_43 : decode cX0_init 43 = .ok (.return_, 1) := by decide +kernel
theorem dX0_length_0 : decode cX0_length 0 = .ok (.aload_n 0, 1) := by decide +kernel
theorem dX0_length_1 : decode cX0_length 1 = .ok (.getfield 15, 3) := by decide +kernel
theorem dX0_length_4 : decode cX0_length 4 = .ok (.ireturn, 1) := by decide +kernel
theorem dX0_append_0 : decode cX0_append 0 = .ok (.aload_n 0, 1) := by decide +kernel
theorem dX0_append_1 : decode cX0_append 1 = .ok (.getfield 15, 3) := by decide +kernel
theorem dX0_append_4 : decode cX0_append 4 = .ok (.bipush 60, 2) := by decide +kernel
theorem dX0_append_6 : decode cX0_append 6 = .ok (.if_icmp .lt 6, 3) := by decide +kernel
theorem dX0_append_9 : decode cX0_append 9 = .ok (.bipush (-3), 2) := by decide +kernel
theorem dX0_append_11 : decode cX0_append 11 = .ok (.ireturn, 1) := by decide +kernel
theorem dX0_append_12 : decode cX0_append 12 = .ok (.aload_n 0, 1) := by decide +kernel
theorem dX0_append_13 : decode cX0_append 13 = .ok (.getfield 9, 3) := by decide +kernel
theorem dX0_append_16 : decode cX0_append 16 = .ok (.aload_n 0, 1) := by decide +kernel
theorem dX0_append_17 : decode cX0_append 17 = .ok (.getfield 15, 3) := by decide +kernel
theorem dX0_append_20 : decode cX0_append 20 = .ok (.iload_n 1, 1) := by decide +kernel
theorem dX0_append_21 : decode cX0_append 21 = .ok (.iastore, 1) := by decide +kernel
theorem dX0_append_22 : decode cX0_append 22 = .ok (.aload_n 0, 1) := by decide +kernel
theorem dX0_append_23 : decode cX0_append 23 = .ok (.dup, 1) := by decide +kernel
theorem dX0_append_24 : decode cX0_append 24 = .ok (.getfield 15, 3) := by decide +kernel
theorem dX0_append_27 : decode cX0_append 27 = .ok (.iconst 1, 1) := by decide +kernel
theorem dX0_append_28 : decode cX0_append 28 = .ok (.iadd, 1) := by decide +kernel
theorem dX0_append_29 : decode cX0_append 29 = .ok (.putfield 15, 3) := by decide +kernel
theorem dX0_append_32 : decode cX0_append 32 = .ok (.aload_n 0, 1) := by decide +kernel
theorem dX0_append_33 : decode cX0_append 33 = .ok (.getfield 15, 3) := by decide +kernel
theorem dX0_append_36 : decode cX0_append 36 = .ok (.ireturn, 1) := by decide +kernel
theorem dX0_empty_0 : decode cX0_empty 0 = .ok (.aload_n 0, 1) := by decide +kernel
theorem dX0_empty_1 : decode cX0_empty 1 = .ok (.getfield 15, 3) := by decide +kernel
theorem dX0_empty_4 : decode cX0_empty 4 = .ok (.istore_n 1, 1) := by decide +kernel
theorem dX0_empty_5 : decode cX0_empty 5 = .ok (.aload_n 0, 1) := by decide +kernel
theorem dX0_empty_6 : decode cX0_empty 6 = .ok (.iconst 0, 1) := by decide +kernel
theorem dX0_empty_7 : decode cX0_empty 7 = .ok (.putfield 15, 3) := by decide +kernel
theorem dX0_empty_10 : decode cX0_empty 10 = .ok (.iload_n 1, 1) := by decide +kernel
theorem dX0_empty_11 : decode cX0_empty 11 = .ok (.ireturn, 1) := by decide +kernel
theorem dX0_commandCount_0 : decode cX0_commandCount 0 = .ok (.aload_n 0, 1) := by decide +kernel
theorem dX0_commandCount_1 : decode cX0_commandCount 1 = .ok (.getfield 25, 3) := by decide +kernel
theorem dX0_commandCount_4 : decode cX0_commandCount 4 = .ok (.ireturn, 1) := by decide +kernel
theorem dX0_commandSector_0 : decode cX0_commandSector 0 = .ok (.aload_n 0, 1) := by decide +kernel
theorem dX0_commandSector_1 : decode cX0_commandSector 1 = .ok (.getfield 19, 3) := by decide +kernel
theorem dX0_commandSector_4 : decode cX0_commandSector 4 = .ok (.iload_n 1, 1) := by decide +kernel
theorem dX0_commandSector_5 : decode cX0_commandSector 5 = .ok (.iaload, 1) := by decide +kernel
theorem dX0_commandSector_6 : decode cX0_commandSector 6 = .ok (.ireturn, 1) := by decide +kernel
theorem dX0_commandValue_0 : decode cX0_commandValue 0 = .ok (.aload_n 0, 1) := by decide +kernel
theorem dX0_commandValue_1 : decode cX0_commandValue 1 = .ok (.getfield 22, 3) := by decide +kernel
theorem dX0_commandValue_4 : decode cX0_commandValue 4 = .ok (.iload_n 1, 1) := by decide +kernel
theorem dX0_commandValue_5 : decode cX0_commandValue 5 = .ok (.iaload, 1) := by decide +kernel
theorem dX0_commandValue_6 : decode cX0_commandValue 6 = .ok (.ireturn, 1) := by decide +kernel
set_option maxRecDepth 20000 in
theorem ggX0_parse_X0_takeCommand : GoodIn wsX0_parse wsX0_takeCommand := goodIn_r _ [7, 8, 9, 10, 6, 11, 1, 12, 13, 14, 15, 16, 17, 18, 19, 20, 21, 22, 23, 24, 25, 26, 27, 28, 29, 2, 30, 31, 32, 33, 34, 35, 36, 37] (by decide +kernel) (by decide +kernel)
set_option maxRecDepth 20000 in
theorem gX0_parse_X0_takeCommand : GoodIn wsX0_parse (wsV RX0 31 RX0 yX0_takeCommand wsX0_takeCommand) := goodIn_app (goodIn_of _ (by decide +kernel)) ggX0_parse_X0_takeCommand
set_option maxRecDepth 20000 in
theorem ggX0_parse_X0_peek : GoodIn wsX0_parse wsX0_peek := goodIn_r _ [15, 1, 16, 17, 32, 33, 34, 35, 36, 37] (by decide +kernel) (by decide +kernel)
set_option maxRecDepth 20000 in
theorem gX0_parse_X0_peek : GoodIn wsX0_parse (wsV RX0 35 RX0 yX0_peek wsX0_peek) := goodIn_app (goodIn_of _ (by decide +kernel)) ggX0_parse_X0_peek
set_option maxRecDepth 20000 in
theorem ggX0_parse_X0_take : GoodIn wsX0_parse wsX0_take := goodIn_r _ [11, 1, 12, 13, 14, 6, 15, 16, 17, 32, 33, 34, 35, 36, 37] (by decide +kernel) (by decide +kernel)
set_option maxRecDepth 20000 in
theorem gX0_parse_X0_take : GoodIn wsX0_parse (wsV RX0 39 RX0 yX0_take wsX0_take) := goodIn_app (goodIn_of _ (by decide +kernel)) ggX0_parse_X0_take
theorem dX0_parse_0 : decode cX0_parse 0 = .ok (.aload_n 0, 1) := by decide +kernel
theorem dX0_parse_1 : decode cX0_parse 1 = .ok (.iconst 0, 1) := by decide +kernel
theorem dX0_parse_2 : decode cX0_parse 2 = .ok (.putfield 28, 3) := by decide +kernel
theorem dX0_parse_5 : decode cX0_parse 5 = .ok (.aload_n 0, 1) := by decide +kernel
theorem dX0_parse_6 : decode cX0_parse 6 = .ok (.iconst 0, 1) := by decide +kernel
theorem dX0_parse_7 : decode cX0_parse 7 = .ok (.putfield 25, 3) := by decide +kernel
theorem dX0_parse_10 : decode cX0_parse 10 = .ok (.iconst 0, 1) := by decide +kernel
theorem dX0_parse_11 : decode cX0_parse 11 = .ok (.istore_n 1, 1) := by decide +kernel
theorem dX0_parse_12 : decode cX0_parse 12 = .ok (.iload_n 1, 1) := by decide +kernel
theorem dX0_parse_13 : decode cX0_parse 13 = .ok (.bipush 20, 2) := by decide +kernel
theorem dX0_parse_15 : decode cX0_parse 15 = .ok (.if_icmp .ge 46, 3) := by decide +kernel
theorem dX0_parse_18 : decode cX0_parse 18 = .ok (.aload_n 0, 1) := by decide +kernel
theorem dX0_parse_19 : decode cX0_parse 19 = .ok (.invokevirtual 31, 3) := by decide +kernel
theorem dX0_parse_22 : decode cX0_parse 22 = .ok (.ifCond .ne 8, 3) := by decide +kernel
theorem dX0_parse_25 : decode cX0_parse 25 = .ok (.aload_n 0, 1) := by decide +kernel
theorem dX0_parse_26 : decode cX0_parse 26 = .ok (.getfield 28, 3) := by decide +kernel
theorem dX0_parse_29 : decode cX0_parse 29 = .ok (.ireturn, 1) := by decide +kernel
theorem dX0_parse_30 : decode cX0_parse 30 = .ok (.aload_n 0, 1) := by decide +kernel
theorem dX0_parse_31 : decode cX0_parse 31 = .ok (.invokevirtual 35, 3) := by decide +kernel
theorem dX0_parse_34 : decode cX0_parse 34 = .ok (.iconst (-1), 1) := by decide +kernel
theorem dX0_parse_35 : decode cX0_parse 35 = .ok (.if_icmp .ne 6, 3) := by decide +kernel
theorem dX0_parse_38 : decode cX0_parse 38 = .ok (.bipush (-5), 2) := by decide +kernel
theorem dX0_parse_40 : decode cX0_parse 40 = .ok (.ireturn, 1) := by decide +kernel
theorem dX0_parse_41 : decode cX0_parse 41 = .ok (.aload_n 0, 1) := by decide +kernel
theorem dX0_parse_42 : decode cX0_parse 42 = .ok (.bipush 59, 2) := by decide +kernel
theorem dX0_parse_44 : decode cX0_parse 44 = .ok (.invokevirtual 39, 3) := by decide +kernel
theorem dX0_parse_47 : decode cX0_parse 47 = .ok (.ifCond .ne 8, 3) := by decide +kernel
theorem dX0_parse_50 : decode cX0_parse 50 = .ok (.aload_n 0, 1) := by decide +kernel
theorem dX0_parse_51 : decode cX0_parse 51 = .ok (.getfield 28, 3) := by decide +kernel
theorem dX0_parse_54 : decode cX0_parse 54 = .ok (.ireturn, 1) := by decide +kernel
theorem dX0_parse_55 : decode cX0_parse 55 = .ok (.iinc 1 1, 3) := by decide +kernel
theorem dX0_parse_58 : decode cX0_parse 58 = .ok (.goto (-46), 3) := by decide +kernel
theorem dX0_parse_61 : decode cX0_parse 61 = .ok (.aload_n 0, 1) := by decide +kernel
theorem dX0_parse_62 : decode cX0_parse 62 = .ok (.getfield 28, 3) := by decide +kernel
theorem dX0_parse_65 : decode cX0_parse 65 = .ok (.ireturn, 1) := by decide +kernel
set_option maxRecDepth 20000 in
theorem ggX0_takeCommand_X0_take : GoodIn wsX0_takeCommand wsX0_take := goodIn_r _ [5, 6, 7, 8, 9, 4, 10, 11, 12, 28, 29, 30, 31, 32, 33] (by decide +kernel) (by decide +kernel)
set_option maxRecDepth 20000 in
theorem gX0_takeCommand_X0_take : GoodIn wsX0_takeCommand (wsV RX0 39 RX0 yX0_take wsX0_take) := goodIn_app (goodIn_of _ (by decide +kernel)) ggX0_takeCommand_X0_take
set_option maxRecDepth 20000 in
theorem ggX0_takeCommand_X0_takeNumber : GoodIn wsX0_takeCommand wsX0_takeNumber := goodIn_r _ [16, 6, 11, 17, 18, 19, 4, 20, 12, 28, 29, 30, 31, 32, 33] (by decide +kernel) (by decide +kernel)
set_option maxRecDepth 20000 in
theorem gX0_takeCommand_X0_takeNumber : GoodIn wsX0_takeCommand (wsV RX0 43 RX0 yX0_takeNumber wsX0_takeNumber) := goodIn_app (goodIn_of _ (by decide +kernel)) ggX0_takeCommand_X0_takeNumber
set_option maxRecDepth 20000 in
theorem ggX0_takeCommand_X0_addCommand : GoodIn wsX0_takeCommand wsX0_addCommand := goodIn_r _ [24, 25, 26, 27, 28, 29, 30, 31, 32, 33] (by decide +kernel) (by decide +kernel)
set_option maxRecDepth 20000 in
theorem gX0_takeCommand_X0_addCommand : GoodIn wsX0_takeCommand (wsV RX0 47 RX0 yX0_addCommand wsX0_addCommand) := goodIn_app (goodIn_of _ (by decide +kernel)) ggX0_takeCommand_X0_addCommand
theorem dX0_takeCommand_0 : decode cX0_takeCommand 0 = .ok (.aload_n 0, 1) := by decide +kernel
theorem dX0_takeCommand_1 : decode cX0_takeCommand 1 = .ok (.bipush 119, 2) := by decide +kernel
theorem dX0_takeCommand_3 : decode cX0_takeCommand 3 = .ok (.invokevirtual 39, 3) := by decide +kernel
theorem dX0_takeCommand_6 : decode cX0_takeCommand 6 = .ok (.istore_n 1, 1) := by decide +kernel
theorem dX0_takeCommand_7 : decode cX0_takeCommand 7 = .ok (.iload_n 1, 1) := by decide +kernel
theorem dX0_takeCommand_8 : decode cX0_takeCommand 8 = .ok (.ifCond .ne 14, 3) := by decide +kernel
theorem dX0_takeCommand_11 : decode cX0_takeCommand 11 = .ok (.aload_n 0, 1) := by decide +kernel
theorem dX0_takeCommand_12 : decode cX0_takeCommand 12 = .ok (.bipush 114, 2) := by decide +kernel
theorem dX0_takeCommand_14 : decode cX0_takeCommand 14 = .ok (.invokevirtual 39, 3) := by decide +kernel
theorem dX0_takeCommand_17 : decode cX0_takeCommand 17 = .ok (.ifCond .ne 5, 3) := by decide +kernel
theorem dX0_takeCommand_20 : decode cX0_takeCommand 20 = .ok (.iconst 0, 1) := by decide +kernel
theorem dX0_takeCommand_21 : decode cX0_takeCommand 21 = .ok (.ireturn, 1) := by decide +kernel
theorem dX0_takeCommand_22 : decode cX0_takeCommand 22 = .ok (.aload_n 0, 1) := by decide +kernel
theorem dX0_takeCommand_23 : decode cX0_takeCommand 23 = .ok (.bipush 63, 2) := by decide +kernel
theorem dX0_takeCommand_25 : decode cX0_takeCommand 25 = .ok (.invokevirtual 43, 3) := by decide +kernel
theorem dX0_takeCommand_28 : decode cX0_takeCommand 28 = .ok (.istore_n 2, 1) := by decide +kernel
theorem dX0_takeCommand_29 : decode cX0_takeCommand 29 = .ok (.iload_n 2, 1) := by decide +kernel
theorem dX0_takeCommand_30 : decode cX0_takeCommand 30 = .ok (.bipush (-5), 2) := by decide +kernel
theorem dX0_takeCommand_32 : decode cX0_takeCommand 32 = .ok (.if_icmp .ne 5, 3) := by decide +kernel
theorem dX0_takeCommand_35 : decode cX0_takeCommand 35 = .ok (.iconst 0, 1) := by decide +kernel
theorem dX0_takeCommand_36 : decode cX0_takeCommand 36 = .ok (.ireturn, 1) := by decide +kernel
theorem dX0_takeCommand_37 : decode cX0_takeCommand 37 = .ok (.bipush (-5), 2) := by decide +kernel
theorem dX0_takeCommand_39 : decode cX0_takeCommand 39 = .ok (.istore_n 3, 1) := by decide +kernel
theorem dX0_takeCommand_40 : decode cX0_takeCommand 40 = .ok (.iload_n 1, 1) := by decide +kernel
theorem dX0_takeCommand_41 : decode cX0_takeCommand 41 = .ok (.ifCond .eq 30, 3) := by decide +kernel
theorem dX0_takeCommand_44 : decode cX0_takeCommand 44 = .ok (.aload_n 0, 1) := by decide +kernel
theorem dX0_takeCommand_45 : decode cX0_takeCommand 45 = .ok (.bipush 61, 2) := by decide +kernel
theorem dX0_takeCommand_47 : decode cX0_takeCommand 47 = .ok (.invokevirtual 39, 3) := by decide +kernel
theorem dX0_takeCommand_50 : decode cX0_takeCommand 50 = .ok (.ifCond .ne 5, 3) := by decide +kernel
theorem dX0_takeCommand_53 : decode cX0_takeCommand 53 = .ok (.iconst 0, 1) := by decide +kernel
theorem dX0_takeCommand_54 : decode cX0_takeCommand 54 = .ok (.ireturn, 1) := by decide +kernel
theorem dX0_takeCommand_55 : decode cX0_takeCommand 55 = .ok (.aload_n 0, 1) := by decide +kernel
theorem dX0_takeCommand_56 : decode cX0_takeCommand 56 = .ok (.sipush 999, 3) := by decide +kernel
theorem dX0_takeCommand_59 : decode cX0_takeCommand 59 = .ok (.invokevirtual 43, 3) := by decide +kernel
theorem dX0_takeCommand_62 : decode cX0_takeCommand 62 = .ok (.istore_n 3, 1) := by decide +kernel
theorem dX0_takeCommand_63 : decode cX0_takeCommand 63 = .ok (.iload_n 3, 1) := by decide +kernel
theorem dX0_takeCommand_64 : decode cX0_takeCommand 64 = .ok (.bipush (-5), 2) := by decide +kernel
theorem dX0_takeCommand_66 : decode cX0_takeCommand 66 = .ok (.if_icmp .ne 5, 3) := by decide +kernel
theorem dX0_takeCommand_69 : decode cX0_takeCommand 69 = .ok (.iconst 0, 1) := by decide +kernel
theorem dX0_takeCommand_70 : decode cX0_takeCommand 70 = .ok (.ireturn, 1) := by decide +kernel
theorem dX0_takeCommand_71 : decode cX0_takeCommand 71 = .ok (.aload_n 0, 1) := by decide +kernel
theorem dX0_takeCommand_72 : decode cX0_takeCommand 72 = .ok (.iload_n 2, 1) := by decide +kernel
theorem dX0_takeCommand_73 : decode cX0_takeCommand 73 = .ok (.iload_n 3, 1) := by decide +kernel
theorem dX0_takeCommand_74 : decode cX0_takeCommand 74 = .ok (.invokevirtual 47, 3) := by decide +kernel
theorem dX0_takeCommand_77 : decode cX0_takeCommand 77 = .ok (.iconst 1, 1) := by decide +kernel
theorem dX0_takeCommand_78 : decode cX0_takeCommand 78 = .ok (.ireturn, 1) := by decide +kernel
theorem dX0_addCommand_0 : decode cX0_addCommand 0 = .ok (.aload_n 0, 1) := by decide +kernel
theorem dX0_addCommand_1 : decode cX0_addCommand 1 = .ok (.getfield 25, 3) := by decide +kernel
theorem dX0_addCommand_4 : decode cX0_addCommand 4 = .ok (.bipush 20, 2) := by decide +kernel
theorem dX0_addCommand_6 : decode cX0_addCommand 6 = .ok (.if_icmp .ge 33, 3) := by decide +kernel
theorem dX0_addCommand_9 : decode cX0_addCommand 9 = .ok (.aload_n 0, 1) := by decide +kernel
theorem dX0_addCommand_10 : decode cX0_addCommand 10 = .ok (.getfield 19, 3) := by decide +kernel
theorem dX0_addCommand_13 : decode cX0_addCommand 13 = .ok (.aload_n 0, 1) := by decide +kernel
theorem dX0_addCommand_14 : decode cX0_addCommand 14 = .ok (.getfield 25, 3) := by decide +kernel
theorem dX0_addCommand_17 : decode cX0_addCommand 17 = .ok (.iload_n 1, 1) := by decide +kernel
theorem dX0_addCommand_18 : decode cX0_addCommand 18 = .ok (.iastore, 1) := by decide +kernel
theorem dX0_addCommand_19 : decode cX0_addCommand 19 = .ok (.aload_n 0, 1) := by decide +kernel
theorem dX0_addCommand_20 : decode cX0_addCommand 20 = .ok (.getfield 22, 3) := by decide +kernel
theorem dX0_addCommand_23 : decode cX0_addCommand 23 = .ok (.aload_n 0, 1) := by decide +kernel
theorem dX0_addCommand_24 : decode cX0_addCommand 24 = .ok (.getfield 25, 3) := by decide +kernel
theorem dX0_addCommand_27 : decode cX0_addCommand 27 = .ok (.iload_n 2, 1) := by decide +kernel
theorem dX0_addCommand_28 : decode cX0_addCommand 28 = .ok (.iastore, 1) := by decide +kernel
theorem dX0_addCommand_29 : decode cX0_addCommand 29 = .ok (.aload_n 0, 1) := by decide +kernel
theorem dX0_addCommand_30 : decode cX0_addCommand 30 = .ok (.dup, 1) := by decide +kernel
theorem dX0_addCommand_31 : decode cX0_addCommand 31 = .ok (.getfield 25, 3) := by decide +kernel
theorem dX0_addCommand_34 : decode cX0_addCommand 34 = .ok (.iconst 1, 1) := by decide +kernel
theorem dX0_addCommand_35 : decode cX0_addCommand 35 = .ok (.iadd, 1) := by decide +kernel
theorem dX0_addCommand_36 : decode cX0_addCommand 36 = .ok (.putfield 25, 3) := by decide +kernel
theorem dX0_addCommand_39 : decode cX0_addCommand 39 = .ok (.return_, 1) := by decide +kernel
set_option maxRecDepth 20000 in
theorem ggX0_takeNumber_X0_digitAt : GoodIn wsX0_takeNumber wsX0_digitAt := goodIn_r _ [7, 2, 8, 9, 10, 11, 12, 13, 14] (by decide +kernel) (by decide +kernel)
set_option maxRecDepth 20000 in
theorem gX0_takeNumber_X0_digitAt : GoodIn wsX0_takeNumber (wsV RX0 51 RX0 yX0_digitAt wsX0_digitAt) := goodIn_app (goodIn_of _ (by decide +kernel)) ggX0_takeNumber_X0_digitAt
theorem dX0_takeNumber_0 : decode cX0_takeNumber 0 = .ok (.aload_n 0, 1) := by decide +kernel
theorem dX0_takeNumber_1 : decode cX0_takeNumber 1 = .ok (.aload_n 0, 1) := by decide +kernel
theorem dX0_takeNumber_2 : decode cX0_takeNumber 2 = .ok (.getfield 28, 3) := by decide +kernel
theorem dX0_takeNumber_5 : decode cX0_takeNumber 5 = .ok (.invokevirtual 51, 3) := by decide +kernel
theorem dX0_takeNumber_8 : decode cX0_takeNumber 8 = .ok (.istore_n 2, 1) := by decide +kernel
theorem dX0_takeNumber_9 : decode cX0_takeNumber 9 = .ok (.iload_n 2, 1) := by decide +kernel
theorem dX0_takeNumber_10 : decode cX0_takeNumber 10 = .ok (.bipush (-5), 2) := by decide +kernel
theorem dX0_takeNumber_12 : decode cX0_takeNumber 12 = .ok (.if_icmp .ne 6, 3) := by decide +kernel
theorem dX0_takeNumber_15 : decode cX0_takeNumber 15 = .ok (.bipush (-5), 2) := by decide +kernel
theorem dX0_takeNumber_17 : decode cX0_takeNumber 17 = .ok (.ireturn, 1) := by decide +kernel
theorem dX0_takeNumber_18 : decode cX0_takeNumber 18 = .ok (.aload_n 0, 1) := by decide +kernel
theorem dX0_takeNumber_19 : decode cX0_takeNumber 19 = .ok (.dup, 1) := by decide +kernel
theorem dX0_takeNumber_20 : decode cX0_takeNumber 20 = .ok (.getfield 28, 3) := by decide +kernel
theorem dX0_takeNumber_23 : decode cX0_takeNumber 23 = .ok (.iconst 1, 1) := by decide +kernel
theorem dX0_takeNumber_24 : decode cX0_takeNumber 24 = .ok (.iadd, 1) := by decide +kernel
theorem dX0_takeNumber_25 : decode cX0_takeNumber 25 = .ok (.putfield 28, 3) := by decide +kernel
theorem dX0_takeNumber_28 : decode cX0_takeNumber 28 = .ok (.aload_n 0, 1) := by decide +kernel
theorem dX0_takeNumber_29 : decode cX0_takeNumber 29 = .ok (.getfield 28, 3) := by decide +kernel
theorem dX0_takeNumber_32 : decode cX0_takeNumber 32 = .ok (.aload_n 0, 1) := by decide +kernel
theorem dX0_takeNumber_33 : decode cX0_takeNumber 33 = .ok (.getfield 15, 3) := by decide +kernel
theorem dX0_takeNumber_36 : decode cX0_takeNumber 36 = .ok (.if_icmp .ge 54, 3) := by decide +kernel
theorem dX0_takeNumber_39 : decode cX0_takeNumber 39 = .ok (.iload_n 2, 1) := by decide +kernel
theorem dX0_takeNumber_40 : decode cX0_takeNumber 40 = .ok (.ifCond .le 50, 3) := by decide +kernel
theorem dX0_takeNumber_43 : decode cX0_takeNumber 43 = .ok (.aload_n 0, 1) := by decide +kernel
theorem dX0_takeNumber_44 : decode cX0_takeNumber 44 = .ok (.aload_n 0, 1) := by decide +kernel
theorem dX0_takeNumber_45 : decode cX0_takeNumber 45 = .ok (.getfield 28, 3) := by decide +kernel
theorem dX0_takeNumber_48 : decode cX0_takeNumber 48 = .ok (.invokevirtual 51, 3) := by decide +kernel
theorem dX0_takeNumber_51 : decode cX0_takeNumber 51 = .ok (.istore_n 3, 1) := by decide +kernel
theorem dX0_takeNumber_52 : decode cX0_takeNumber 52 = .ok (.iload_n 3, 1) := by decide +kernel
theorem dX0_takeNumber_53 : decode cX0_takeNumber 53 = .ok (.bipush (-5), 2) := by decide +kernel
theorem dX0_takeNumber_55 : decode cX0_takeNumber 55 = .ok (.if_icmp .eq 13, 3) := by decide +kernel
theorem dX0_takeNumber_58 : decode cX0_takeNumber 58 = .ok (.bipush 10, 2) := by decide +kernel
theorem dX0_takeNumber_60 : decode cX0_takeNumber 60 = .ok (.iload_n 2, 1) := by decide +kernel
theorem dX0_takeNumber_61 : decode cX0_takeNumber 61 = .ok (.imul, 1) := by decide +kernel
theorem dX0_takeNumber_62 : decode cX0_takeNumber 62 = .ok (.iload_n 3, 1) := by decide +kernel
theorem dX0_takeNumber_63 : decode cX0_takeNumber 63 = .ok (.iadd, 1) := by decide +kernel
theorem dX0_takeNumber_64 : decode cX0_takeNumber 64 = .ok (.iload_n 1, 1) := by decide +kernel
theorem dX0_takeNumber_65 : decode cX0_takeNumber 65 = .ok (.if_icmp .le 5, 3) := by decide +kernel
theorem dX0_takeNumber_68 : decode cX0_takeNumber 68 = .ok (.iload_n 2, 1) := by decide +kernel
theorem dX0_takeNumber_69 : decode cX0_takeNumber 69 = .ok (.ireturn, 1) := by decide +kernel
theorem dX0_takeNumber_70 : decode cX0_takeNumber 70 = .ok (.bipush 10, 2) := by decide +kernel
theorem dX0_takeNumber_72 : decode cX0_takeNumber 72 = .ok (.iload_n 2, 1) := by decide +kernel
theorem dX0_takeNumber_73 : decode cX0_takeNumber 73 = .ok (.imul, 1) := by decide +kernel
theorem dX0_takeNumber_74 : decode cX0_takeNumber 74 = .ok (.iload_n 3, 1) := by decide +kernel
theorem dX0_takeNumber_75 : decode cX0_takeNumber 75 = .ok (.iadd, 1) := by decide +kernel
theorem dX0_takeNumber_76 : decode cX0_takeNumber 76 = .ok (.istore_n 2, 1) := by decide +kernel
theorem dX0_takeNumber_77 : decode cX0_takeNumber 77 = .ok (.aload_n 0, 1) := by decide +kernel
theorem dX0_takeNumber_78 : decode cX0_takeNumber 78 = .ok (.dup, 1) := by decide +kernel
theorem dX0_takeNumber_79 : decode cX0_takeNumber 79 = .ok (.getfield 28, 3) := by decide +kernel
theorem dX0_takeNumber_82 : decode cX0_takeNumber 82 = .ok (.iconst 1, 1) := by decide +kernel
theorem dX0_takeNumber_83 : decode cX0_takeNumber 83 = .ok (.iadd, 1) := by decide +kernel
theorem dX0_takeNumber_84 : decode cX0_takeNumber 84 = .ok (.putfield 28, 3) := by decide +kernel
theorem dX0_takeNumber_87 : decode cX0_takeNumber 87 = .ok (.goto (-59), 3) := by decide +kernel
theorem dX0_takeNumber_90 : decode cX0_takeNumber 90 = .ok (.iload_n 2, 1) := by decide +kernel
theorem dX0_takeNumber_91 : decode cX0_takeNumber 91 = .ok (.ireturn, 1) := by decide +kernel
theorem dX0_digitAt_0 : decode cX0_digitAt 0 = .ok (.iload_n 1, 1) := by decide +kernel
theorem dX0_digitAt_1 : decode cX0_digitAt 1 = .ok (.aload_n 0, 1) := by decide +kernel
theorem dX0_digitAt_2 : decode cX0_digitAt 2 = .ok (.getfield 15, 3) := by decide +kernel
theorem dX0_digitAt_5 : decode cX0_digitAt 5 = .ok (.if_icmp .ge 25, 3) := by decide +kernel
theorem dX0_digitAt_8 : decode cX0_digitAt 8 = .ok (.aload_n 0, 1) := by decide +kernel
theorem dX0_digitAt_9 : decode cX0_digitAt 9 = .ok (.getfield 9, 3) := by decide +kernel
theorem dX0_digitAt_12 : decode cX0_digitAt 12 = .ok (.iload_n 1, 1) := by decide +kernel
theorem dX0_digitAt_13 : decode cX0_digitAt 13 = .ok (.iaload, 1) := by decide +kernel
theorem dX0_digitAt_14 : decode cX0_digitAt 14 = .ok (.bipush 48, 2) := by decide +kernel
theorem dX0_digitAt_16 : decode cX0_digitAt 16 = .ok (.if_icmp .lt 14, 3) := by decide +kernel
theorem dX0_digitAt_19 : decode cX0_digitAt 19 = .ok (.aload_n 0, 1) := by decide +kernel
theorem dX0_digitAt_20 : decode cX0_digitAt 20 = .ok (.getfield 9, 3) := by decide +kernel
theorem dX0_digitAt_23 : decode cX0_digitAt 23 = .ok (.iload_n 1, 1) := by decide +kernel
theorem dX0_digitAt_24 : decode cX0_digitAt 24 = .ok (.iaload, 1) := by decide +kernel
theorem dX0_digitAt_25 : decode cX0_digitAt 25 = .ok (.bipush 57, 2) := by decide +kernel
theorem dX0_digitAt_27 : decode cX0_digitAt 27 = .ok (.if_icmp .le 6, 3) := by decide +kernel
theorem dX0_digitAt_30 : decode cX0_digitAt 30 = .ok (.bipush (-5), 2) := by decide +kernel
theorem dX0_digitAt_32 : decode cX0_digitAt 32 = .ok (.ireturn, 1) := by decide +kernel
theorem dX0_digitAt_33 : decode cX0_digitAt 33 = .ok (.aload_n 0, 1) := by decide +kernel
theorem dX0_digitAt_34 : decode cX0_digitAt 34 = .ok (.getfield 9, 3) := by decide +kernel
theorem dX0_digitAt_37 : decode cX0_digitAt 37 = .ok (.iload_n 1, 1) := by decide +kernel
theorem dX0_digitAt_38 : decode cX0_digitAt 38 = .ok (.iaload, 1) := by decide +kernel
theorem dX0_digitAt_39 : decode cX0_digitAt 39 = .ok (.bipush 48, 2) := by decide +kernel
theorem dX0_digitAt_41 : decode cX0_digitAt 41 = .ok (.isub, 1) := by decide +kernel
theorem dX0_digitAt_42 : decode cX0_digitAt 42 = .ok (.ireturn, 1) := by decide +kernel
theorem dX0_peek_0 : decode cX0_peek 0 = .ok (.aload_n 0, 1) := by decide +kernel
theorem dX0_peek_1 : decode cX0_peek 1 = .ok (.getfield 28, 3) := by decide +kernel
theorem dX0_peek_4 : decode cX0_peek 4 = .ok (.aload_n 0, 1) := by decide +kernel
theorem dX0_peek_5 : decode cX0_peek 5 = .ok (.getfield 15, 3) := by decide +kernel
theorem dX0_peek_8 : decode cX0_peek 8 = .ok (.if_icmp .ge 15, 3) := by decide +kernel
theorem dX0_peek_11 : decode cX0_peek 11 = .ok (.aload_n 0, 1) := by decide +kernel
theorem dX0_peek_12 : decode cX0_peek 12 = .ok (.getfield 9, 3) := by decide +kernel
theorem dX0_peek_15 : decode cX0_peek 15 = .ok (.aload_n 0, 1) := by decide +kernel
theorem dX0_peek_16 : decode cX0_peek 16 = .ok (.getfield 28, 3) := by decide +kernel
theorem dX0_peek_19 : decode cX0_peek 19 = .ok (.iaload, 1) := by decide +kernel
theorem dX0_peek_20 : decode cX0_peek 20 = .ok (.goto 4, 3) := by decide +kernel
theorem dX0_peek_23 : decode cX0_peek 23 = .ok (.iconst (-1), 1) := by decide +kernel
theorem dX0_peek_24 : decode cX0_peek 24 = .ok (.ireturn, 1) := by decide +kernel
set_option maxRecDepth 20000 in
theorem ggX0_take_X0_peek : GoodIn wsX0_take wsX0_peek := goodIn_r _ [6, 1, 7, 8, 9, 10, 11, 12, 13, 14] (by decide +kernel) (by decide +kernel)
set_option maxRecDepth 20000 in
theorem gX0_take_X0_peek : GoodIn wsX0_take (wsV RX0 35 RX0 yX0_peek wsX0_peek) := goodIn_app (goodIn_of _ (by decide +kernel)) ggX0_take_X0_peek
theorem dX0_take_0 : decode cX0_take 0 = .ok (.aload_n 0, 1) := by decide +kernel
theorem dX0_take_1 : decode cX0_take 1 = .ok (.invokevirtual 35, 3) := by decide +kernel
theorem dX0_take_4 : decode cX0_take 4 = .ok (.iload_n 1, 1) := by decide +kernel
theorem dX0_take_5 : decode cX0_take 5 = .ok (.if_icmp .eq 5, 3) := by decide +kernel
theorem dX0_take_8 : decode cX0_take 8 = .ok (.iconst 0, 1) := by decide +kernel
theorem dX0_take_9 : decode cX0_take 9 = .ok (.ireturn, 1) := by decide +kernel
theorem dX0_take_10 : decode cX0_take 10 = .ok (.aload_n 0, 1) := by decide +kernel
theorem dX0_take_11 : decode cX0_take 11 = .ok (.dup, 1) := by decide +kernel
theorem dX0_take_12 : decode cX0_take 12 = .ok (.getfield 28, 3) := by decide +kernel
theorem dX0_take_15 : decode cX0_take 15 = .ok (.iconst 1, 1) := by decide +kernel
theorem dX0_take_16 : decode cX0_take 16 = .ok (.iadd, 1) := by decide +kernel
theorem dX0_take_17 : decode cX0_take 17 = .ok (.putfield 28, 3) := by decide +kernel
theorem dX0_take_20 : decode cX0_take 20 = .ok (.iconst 1, 1) := by decide +kernel
theorem dX0_take_21 : decode cX0_take 21 = .ok (.ireturn, 1) := by decide +kernel
set_option maxRecDepth 20000 in
theorem ggX1_init_X1_divide : GoodIn wsX1_init wsX1_divide := goodIn_r _ [25, 7, 13, 14, 26, 27, 28, 24, 29, 30, 31, 32, 33, 34, 35, 36, 37, 38, 39, 40, 41, 42, 43, 44, 45, 46, 47, 48, 49, 50, 51] (by decide +kernel) (by decide +kernel)
set_option maxRecDepth 20000 in
theorem gX1_init_X1_divide : GoodIn wsX1_init (wsV RX1 59 RX1 yX1_divide wsX1_divide) := goodIn_app (goodIn_of _ (by decide +kernel)) ggX1_init_X1_divide
theorem dX1_init_0 : decode cX1_init 0 = .ok (.aload_n 0, 1) := by decide +kernel
theorem dX1_init_1 : decode cX1_init 1 = .ok (.invokespecial 3, 3) := by decide +kernel
theorem dX1_init_4 : decode cX1_init 4 = .ok (.aload_n 0, 1) := by decide +kernel
theorem dX1_init_5 : decode cX1_init 5 = .ok (.bipush 30, 2) := by decide +kernel
theorem dX1_init_7 : decode cX1_init 7 = .ok (.putfield 9, 3) := by decide +kernel
theorem dX1_init_10 : decode cX1_init 10 = .ok (.aload_n 0, 1) := by decide +kernel
theorem dX1_init_11 : decode cX1_init 11 = .ok (.iconst 4, 1) := by decide +kernel
theorem dX1_init_12 : decode cX1_init 12 = .ok (.newarray .int, 2) := by decide +kernel
theorem dX1_init_14 : decode cX1_init 14 = .ok (.putfield 15, 3) := by decide +kernel
theorem dX1_init_17 : decode cX1_init 17 = .ok (.aload_n 0, 1) := by decide +kernel
theorem dX1_init_18 : decode cX1_init 18 = .ok (.iconst 4, 1) := by decide +kernel
theorem dX1_init_19 : decode cX1_init 19 = .ok (.newarray .int, 2) := by decide +kernel
theorem dX1_init_21 : decode cX1_init 21 = .ok (.putfield 19, 3) := by decide +kernel
theorem dX1_init_24 : decode cX1_init 24 = .ok (.aload_n 0, 1) := by decide +kernel
theorem dX1_init_25 : decode cX1_init 25 = .ok (.iconst 4, 1) := by decide +kernel
theorem dX1_init_26 : decode cX1_init 26 = .ok (.newarray .boolean, 2) := by decide +kernel
theorem dX1_init_28 : decode cX1_init 28 = .ok (.putfield 22, 3) := by decide +kernel
theorem dX1_init_31 : decode cX1_init 31 = .ok (.aload_n 0, 1) := by decide +kernel
theorem dX1_init_32 : decode cX1_init 32 = .ok (.bipush 64, 2) := by decide +kernel
theorem dX1_init_34 : decode cX1_init 34 = .ok (.newarray .int, 2) := by decide +kernel
theorem dX1_init_36 : decode cX1_init 36 = .ok (.putfield 26, 3) := by decide +kernel
theorem dX1_init_39 : decode cX1_init 39 = .ok (.aload_n 0, 1) := by decide +kernel
theorem dX1_init_40 : decode cX1_init 40 = .ok (.bipush 64, 2) := by decide +kernel
theorem dX1_init_42 : decode cX1_init 42 = .ok (.newarray .int, 2) := by decide +kernel
theorem dX1_init_44 : decode cX1_init 44 = .ok (.putfield 29, 3) := by decide +kernel
theorem dX1_init_47 : decode cX1_init 47 = .ok (.aload_n 0, 1) := by decide +kernel
theorem dX1_init_48 : decode cX1_init 48 = .ok (.bipush 64, 2) := by decide +kernel
theorem dX1_init_50 : decode cX1_init 50 = .ok (.newarray .int, 2) := by decide +kernel
theorem dX1_init_52 : decode cX1_init 52 = .ok (.putfield 32, 3) := by decide +kernel
theorem dX1_init_55 : decode cX1_init 55 = .ok (.aload_n 0, 1) := by decide +kernel
theorem dX1_init_56 : decode cX1_init 56 = .ok (.bipush 64, 2) := by decide +kernel
theorem dX1_init_58 : decode cX1_init 58 = .ok (.newarray .int, 2) := by decide +kernel
theorem dX1_init_60 : decode cX1_init 60 = .ok (.putfield 35, 3) := by decide +kernel
theorem dX1_init_63 : decode cX1_init 63 = .ok (.aload_n 0, 1) := by decide +kernel
theorem dX1_init_64 : decode cX1_init 64 = .ok (.bipush 64, 2) := by decide +kernel
theorem dX1_init_66 : decode cX1_init 66 = .ok (.newarray .int, 2) := by decide +kernel
theorem dX1_init_68 : decode cX1_init 68 = .ok (.putfield 38, 3) := by decide +kernel
theorem dX1_init_71 : decode cX1_init 71 = .ok (.aload_n 0, 1) := by decide +kernel
theorem dX1_init_72 : decode cX1_init 72 = .ok (.iconst 0, 1) := by decide +kernel
theorem dX1_init_73 : decode cX1_init 73 = .ok (.putfield 41, 3) := by decide +kernel
theorem dX1_init_76 : decode cX1_init 76 = .ok (.aload_n 0, 1) := by decide +kernel
theorem dX1_init_77 : decode cX1_init 77 = .ok (.iconst 0, 1) := by decide +kernel
theorem dX1_init_78 : decode cX1_init 78 = .ok (.putfield 44, 3) := by decide +kernel
theorem dX1_init_81 : decode cX1_init 81 = .ok (.aload_n 0, 1) := by decide +kernel
theorem dX1_init_82 : decode cX1_init 82 = .ok (.iconst 0, 1) := by decide +kernel
theorem dX1_init_83 : decode cX1_init 83 = .ok (.putfield 47, 3) := by decide +kernel
theorem dX1_init_86 : decode cX1_init 86 = .ok (.aload_n 0, 1) := by decide +kernel
theorem dX1_init_87 : decode cX1_init 87 = .ok (.iconst 0, 1) := by decide +kernel
theorem dX1_init_88 : decode cX1_init 88 = .ok (.putfield 50, 3) := by decide +kernel
theorem dX1_init_91 : decode cX1_init 91 = .ok (.aload_n 0, 1) := by decide +kernel
theorem dX1_init_92 : decode cX1_init 92 = .ok (.iconst 0, 1) := by decide +kernel
theorem dX1_init_93 : decode cX1_init 93 = .ok (.putfield 53, 3) := by decide +kernel
theorem dX1_init_96 : decode cX1_init 96 = .ok (.aload_n 0, 1) := by decide +kernel
theorem dX1_init_97 : decode cX1_init 97 = .ok (.iconst 0, 1) := by decide +kernel
theorem dX1_init_98 : decode cX1_init 98 = .ok (.putfield 56, 3) := by decide +kernel
theorem dX1_init_101 : decode cX1_init 101 = .ok (.iconst 0, 1) := by decide +kernel
theorem dX1_init_102 : decode cX1_init 102 = .ok (.istore_n 1, 1) := by decide +kernel
theorem dX1_init_103 : decode cX1_init 103 = .ok (.iload_n 1, 1) := by decide +kernel
theorem dX1_init_104 : decode cX1_init 104 = .ok (.iconst 4, 1) := by decide +kernel
theorem dX1_init_105 : decode cX1_init 105 = .ok (.if_icmp .ge 24, 3) := by decide +kernel
theorem dX1_init_108 : decode cX1_init 108 = .ok (.aload_n 0, 1) := by decide +kernel
theorem dX1_init_109 : decode cX1_init 109 = .ok (.getfield 15, 3) := by decide +kernel
theorem dX1_init_112 : decode cX1_init 112 = .ok (.iload_n 1, 1) := by decide +kernel
theorem dX1_init_113 : decode cX1_init 113 = .ok (.iload_n 1, 1) := by decide +kernel
theorem dX1_init_114 : decode cX1_init 114 = .ok (.iconst 1, 1) := by decide +kernel
theorem dX1_init_115 : decode cX1_init 115 = .ok (.iadd, 1) := by decide +kernel
theorem dX1_init_116 : decode cX1_init 116 = .ok (.iastore, 1) := by decide +kernel
theorem dX1_init_117 : decode cX1_init 117 = .ok (.aload_n 0, 1) := by decide +kernel
theorem dX1_init_118 : decode cX1_init 118 = .ok (.iload_n 1, 1) := by decide +kernel
theorem dX1_init_119 : decode cX1_init 119 = .ok (.iconst 4, 1) := by decide +kernel
theorem dX1_init_120 : decode cX1_init 120 = .ok (.invokevirtual 59, 3) := by decide +kernel
theorem dX1_init_123 : decode cX1_init 123 = .ok (.iinc 1 1, 3) := by decide +kernel
theorem dX1_init_126 : decode cX1_init 126 = .ok (.goto (-23), 3) := by decide +kernel
theorem dX1_init_129 : decode cX1_init 129 = .ok (.return_, 1) := by decide +kernel
theorem dX1_takeOver_0 : decode cX1_takeOver 0 = .ok (.aload_n 0, 1) := by decide +kernel
theorem dX1_takeOver_1 : decode cX1_takeOver 1 = .ok (.aload_n 1, 1) := by decide +kernel
theorem dX1_takeOver_2 : decode cX1_takeOver 2 = .ok (.getfield 9, 3) := by decide +kernel
theorem dX1_takeOver_5 : decode cX1_takeOver 5 = .ok (.putfield 9, 3) := by decide +kernel
theorem dX1_takeOver_8 : decode cX1_takeOver 8 = .ok (.aload_n 1, 1) := by decide +kernel
theorem dX1_takeOver_9 : decode cX1_takeOver 9 = .ok (.getfield 15, 3) := by decide +kernel
theorem dX1_takeOver_12 : decode cX1_takeOver 12 = .ok (.iconst 0, 1) := by decide +kernel
theorem dX1_takeOver_13 : decode cX1_takeOver 13 = .ok (.aload_n 0, 1) := by decide +kernel
theorem dX1_takeOver_14 : decode cX1_takeOver 14 = .ok (.getfield 15, 3) := by decide +kernel
theorem dX1_takeOver_17 : decode cX1_takeOver 17 = .ok (.iconst 0, 1) := by decide +kernel
theorem dX1_takeOver_18 : decode cX1_takeOver 18 = .ok (.iconst 4, 1) := by decide +kernel
theorem dX1_takeOver_19 : decode cX1_takeOver 19 = .ok (.invokestatic 63, 3) := by decide +kernel
theorem dX1_takeOver_22 : decode cX1_takeOver 22 = .ok (.aload_n 1, 1) := by decide +kernel
theorem dX1_takeOver_23 : decode cX1_takeOver 23 = .ok (.getfield 19, 3) := by decide +kernel
theorem dX1_takeOver_26 : decode cX1_takeOver 26 = .ok (.iconst 0, 1) := by decide +kernel
theorem dX1_takeOver_27 : decode cX1_takeOver 27 = .ok (.aload_n 0, 1) := by decide +kernel
theorem dX1_takeOver_28 : decode cX1_takeOver 28 = .ok (.getfield 19, 3) := by decide +kernel
theorem dX1_takeOver_31 : decode cX1_takeOver 31 = .ok (.iconst 0, 1) := by decide +kernel
theorem dX1_takeOver_32 : decode cX1_takeOver 32 = .ok (.iconst 4, 1) := by decide +kernel
theorem dX1_takeOver_33 : decode cX1_takeOver 33 = .ok (.invokestatic 63, 3) := by decide +kernel
theorem dX1_takeOver_36 : decode cX1_takeOver 36 = .ok (.aload_n 1, 1) := by decide +kernel
theorem dX1_takeOver_37 : decode cX1_takeOver 37 = .ok (.getfield 22, 3) := by decide +kernel
theorem dX1_takeOver_40 : decode cX1_takeOver 40 = .ok (.iconst 0, 1) := by decide +kernel
theorem dX1_takeOver_41 : decode cX1_takeOver 41 = .ok (.aload_n 0, 1) := by decide +kernel
theorem dX1_takeOver_42 : decode cX1_takeOver 42 = .ok (.getfield 22, 3) := by decide +kernel
theorem dX1_takeOver_45 : decode cX1_takeOver 45 = .ok (.iconst 0, 1) := by decide +kernel
theorem dX1_takeOver_46 : decode cX1_takeOver 46 = .ok (.iconst 4, 1) := by decide +kernel
theorem dX1_takeOver_47 : decode cX1_takeOver 47 = .ok (.invokestatic 63, 3) := by decide +kernel
theorem dX1_takeOver_50 : decode cX1_takeOver 50 = .ok (.aload_n 1, 1) := by decide +kernel
theorem dX1_takeOver_51 : decode cX1_takeOver 51 = .ok (.getfield 26, 3) := by decide +kernel
theorem dX1_takeOver_54 : decode cX1_takeOver 54 = .ok (.iconst 0, 1) := by decide +kernel
theorem dX1_takeOver_55 : decode cX1_takeOver 55 = .ok (.aload_n 0, 1) := by decide +kernel
theorem dX1_takeOver_56 : decode cX1_takeOver 56 = .ok (.getfield 26, 3) := by decide +kernel
theorem dX1_takeOver_59 : decode cX1_takeOver 59 = .ok (.iconst 0, 1) := by decide +kernel
theorem dX1_takeOver_60 : decode cX1_takeOver 60 = .ok (.bipush 64, 2) := by decide +kernel
theorem dX1_takeOver_62 : decode cX1_takeOver 62 = .ok (.invokestatic 63, 3) := by decide +kernel
theorem dX1_takeOver_65 : decode cX1_takeOver 65 = .ok (.aload_n 1, 1) := by decide +kernel
theorem dX1_takeOver_66 : decode cX1_takeOver 66 = .ok (.getfield 29, 3) := by decide +kernel
theorem dX1_takeOver_69 : decode cX1_takeOver 69 = .ok (.iconst 0, 1) := by decide +kernel
theorem dX1_takeOver_70 : decode cX1_takeOver 70 = .ok (.aload_n 0, 1) := by decide +kernel
theorem dX1_takeOver_71 : decode cX1_takeOver 71 = .ok (.getfield 29, 3) := by decide +kernel
theorem dX1_takeOver_74 : decode cX1_takeOver 74 = .ok (.iconst 0, 1) := by decide +kernel
theorem dX1_takeOver_75 : decode cX1_takeOver 75 = .ok (.bipush 64, 2) := by decide +kernel
theorem dX1_takeOver_77 : decode cX1_takeOver 77 = .ok (.invokestatic 63, 3) := by decide +kernel
theorem dX1_takeOver_80 : decode cX1_takeOver 80 = .ok (.aload_n 1, 1) := by decide +kernel
theorem dX1_takeOver_81 : decode cX1_takeOver 81 = .ok (.getfield 32, 3) := by decide +kernel
theorem dX1_takeOver_84 : decode cX1_takeOver 84 = .ok (.iconst 0, 1) := by decide +kernel
theorem dX1_takeOver_85 : decode cX1_takeOver 85 = .ok (.aload_n 0, 1) := by decide +kernel
theorem dX1_takeOver_86 : decode cX1_takeOver 86 = .ok (.getfield 32, 3) := by decide +kernel
theorem dX1_takeOver_89 : decode cX1_takeOver 89 = .ok (.iconst 0, 1) := by decide +kernel
theorem dX1_takeOver_90 : decode cX1_takeOver 90 = .ok (.bipush 64, 2) := by decide +kernel
theorem dX1_takeOver_92 : decode cX1_takeOver 92 = .ok (.invokestatic 63, 3) := by decide +kernel
theorem dX1_takeOver_95 : decode cX1_takeOver 95 = .ok (.aload_n 1, 1) := by decide +kernel
theorem dX1_takeOver_96 : decode cX1_takeOver 96 = .ok (.getfield 35, 3) := by decide +kernel
theorem dX1_takeOver_99 : decode cX1_takeOver 99 = .ok (.iconst 0, 1) := by decide +kernel
theorem dX1_takeOver_100 : decode cX1_takeOver 100 = .ok (.aload_n 0, 1) := by decide +kernel
theorem dX1_takeOver_101 : decode cX1_takeOver 101 = .ok (.getfield 35, 3) := by decide +kernel
theorem dX1_takeOver_104 : decode cX1_takeOver 104 = .ok (.iconst 0, 1) := by decide +kernel
theorem dX1_takeOver_105 : decode cX1_takeOver 105 = .ok (.bipush 64, 2) := by decide +kernel
theorem dX1_takeOver_107 : decode cX1_takeOver 107 = .ok (.invokestatic 63, 3) := by decide +kernel
theorem dX1_takeOver_110 : decode cX1_takeOver 110 = .ok (.aload_n 1, 1) := by decide +kernel
theorem dX1_takeOver_111 : decode cX1_takeOver 111 = .ok (.getfield 38, 3) := by decide +kernel
theorem dX1_takeOver_114 : decode cX1_takeOver 114 = .ok (.iconst 0, 1) := by decide +kernel
theorem dX1_takeOver_115 : decode cX1_takeOver 115 = .ok (.aload_n 0, 1) := by decide +kernel
theorem dX1_takeOver_116 : decode cX1_takeOver 116 = .ok (.getfield 38, 3) := by decide +kernel
theorem dX1_takeOver_119 : decode cX1_takeOver 119 = .ok (.iconst 0, 1) := by decide +kernel
theorem dX1_takeOver_120 : decode cX1_takeOver 120 = .ok (.bipush 64, 2) := by decide +kernel
theorem dX1_takeOver_122 : decode cX1_takeOver 122 = .ok (.invokestatic 63, 3) := by decide +kernel
theorem dX1_takeOver_125 : decode cX1_takeOver 125 = .ok (.aload_n 0, 1) := by decide +kernel
theorem dX1_takeOver_126 : decode cX1_takeOver 126 = .ok (.aload_n 1, 1) := by decide +kernel
theorem dX1_takeOver_127 : decode cX1_takeOver 127 = .ok (.getfield 41, 3) := by decide +kernel
theorem dX1_takeOver_130 : decode cX1_takeOver 130 = .ok (.putfield 41, 3) := by decide +kernel
theorem dX1_takeOver_133 : decode cX1_takeOver 133 = .ok (.aload_n 0, 1) := by decide +kernel
theorem dX1_takeOver_134 : decode cX1_takeOver 134 = .ok (.aload_n 1, 1) := by decide +kernel
theorem dX1_takeOver_135 : decode cX1_takeOver 135 = .ok (.getfield 44, 3) := by decide +kernel
theorem dX1_takeOver_138 : decode cX1_takeOver 138 = .ok (.putfield 44, 3) := by decide +kernel
theorem dX1_takeOver_141 : decode cX1_takeOver 141 = .ok (.aload_n 0, 1) := by decide +kernel
theorem dX1_takeOver_142 : decode cX1_takeOver 142 = .ok (.aload_n 1, 1) := by decide +kernel
theorem dX1_takeOver_143 : decode cX1_takeOver 143 = .ok (.getfield 47, 3) := by decide +kernel
theorem dX1_takeOver_146 : decode cX1_takeOver 146 = .ok (.putfield 47, 3) := by decide +kernel
theorem dX1_takeOver_149 : decode cX1_takeOver 149 = .ok (.aload_n 0, 1) := by decide +kernel
theorem dX1_takeOver_150 : decode cX1_takeOver 150 = .ok (.aload_n 1, 1) := by decide +kernel
theorem dX1_takeOver_151 : decode cX1_takeOver 151 = .ok (.getfield 50, 3) := by decide +kernel
theorem dX1_takeOver_154 : decode cX1_takeOver 154 = .ok (.putfield 50, 3) := by decide +kernel
theorem dX1_takeOver_157 : decode cX1_takeOver 157 = .ok (.aload_n 0, 1) := by decide +kernel
theorem dX1_takeOver_158 : decode cX1_takeOver 158 = .ok (.aload_n 1, 1) := by decide +kernel
theorem dX1_takeOver_159 : decode cX1_takeOver 159 = .ok (.getfield 53, 3) := by decide +kernel
theorem dX1_takeOver_162 : decode cX1_takeOver 162 = .ok (.putfield 53, 3) := by decide +kernel
theorem dX1_takeOver_165 : decode cX1_takeOver 165 = .ok (.aload_n 0, 1) := by decide +kernel
theorem dX1_takeOver_166 : decode cX1_takeOver 166 = .ok (.aload_n 1, 1) := by decide +kernel
theorem dX1_takeOver_167 : decode cX1_takeOver 167 = .ok (.getfield 56, 3) := by decide +kernel
theorem dX1_takeOver_170 : decode cX1_takeOver 170 = .ok (.putfield 56, 3) := by decide +kernel
theorem dX1_takeOver_173 : decode cX1_takeOver 173 = .ok (.return_, 1) := by decide +kernel
set_option maxRecDepth 20000 in
theorem ggX1_divide_X1_isAddress : GoodIn wsX1_divide wsX1_isAddress := goodIn_r _ [8, 1, 9, 10, 11, 12, 13, 14, 15, 16, 17, 18, 19, 20, 21, 22, 23, 24, 25, 26, 27, 28, 29, 30] (by decide +kernel) (by decide +kernel)
set_option maxRecDepth 20000 in
theorem gX1_divide_X1_isAddress : GoodIn wsX1_divide (wsV RX1 69 RX1 yX1_isAddress wsX1_isAddress) := goodIn_app (goodIn_of _ (by decide +kernel)) ggX1_divide_X1_isAddress
theorem dX1_divide_0 : decode cX1_divide 0 = .ok (.aload_n 0, 1) := by decide +kernel
theorem dX1_divide_1 : decode cX1_divide 1 = .ok (.getfield 19, 3) := by decide +kernel
theorem dX1_divide_4 : decode cX1_divide 4 = .ok (.iload_n 1, 1) := by decide +kernel
theorem dX1_divide_5 : decode cX1_divide 5 = .ok (.iload_n 2, 1) := by decide +kernel
theorem dX1_divide_6 : decode cX1_divide 6 = .ok (.iastore, 1) := by decide +kernel
theorem dX1_divide_7 : decode cX1_divide 7 = .ok (.iconst 0, 1) := by decide +kernel
theorem dX1_divide_8 : decode cX1_divide 8 = .ok (.istore_n 3, 1) := by decide +kernel
theorem dX1_divide_9 : decode cX1_divide 9 = .ok (.iload_n 3, 1) := by decide +kernel
theorem dX1_divide_10 : decode cX1_divide 10 = .ok (.bipush 16, 2) := by decide +kernel
theorem dX1_divide_12 : decode cX1_divide 12 = .ok (.if_icmp .ge 53, 3) := by decide +kernel
theorem dX1_divide_15 : decode cX1_divide 15 = .ok (.iload_n 1, 1) := by decide +kernel
theorem dX1_divide_16 : decode cX1_divide 16 = .ok (.bipush 16, 2) := by decide +kernel
theorem dX1_divide_18 : decode cX1_divide 18 = .ok (.imul, 1) := by decide +kernel
theorem dX1_divide_19 : decode cX1_divide 19 = .ok (.iload_n 3, 1) := by decide +kernel
theorem dX1_divide_20 : decode cX1_divide 20 = .ok (.iadd, 1) := by decide +kernel
theorem dX1_divide_21 : decode cX1_divide 21 = .ok (.istore 4, 2) := by decide +kernel
theorem dX1_divide_23 : decode cX1_divide 23 = .ok (.aload_n 0, 1) := by decide +kernel
theorem dX1_divide_24 : decode cX1_divide 24 = .ok (.iload 4, 2) := by decide +kernel
theorem dX1_divide_26 : decode cX1_divide 26 = .ok (.invokevirtual 69, 3) := by decide +kernel
theorem dX1_divide_29 : decode cX1_divide 29 = .ok (.ifCond .eq 8, 3) := by decide +kernel
theorem dX1_divide_32 : decode cX1_divide 32 = .ok (.iload 4, 2) := by decide +kernel
theorem dX1_divide_34 : decode cX1_divide 34 = .ok (.goto 5, 3) := by decide +kernel
theorem dX1_divide_37 : decode cX1_divide 37 = .ok (.bipush (-5), 2) := by decide +kernel
theorem dX1_divide_39 : decode cX1_divide 39 = .ok (.istore 5, 2) := by decide +kernel
theorem dX1_divide_41 : decode cX1_divide 41 = .ok (.aload_n 0, 1) := by decide +kernel
theorem dX1_divide_42 : decode cX1_divide 42 = .ok (.getfield 35, 3) := by decide +kernel
theorem dX1_divide_45 : decode cX1_divide 45 = .ok (.iload 4, 2) := by decide +kernel
theorem dX1_divide_47 : decode cX1_divide 47 = .ok (.iload 5, 2) := by decide +kernel
theorem dX1_divide_49 : decode cX1_divide 49 = .ok (.iastore, 1) := by decide +kernel
theorem dX1_divide_50 : decode cX1_divide 50 = .ok (.aload_n 0, 1) := by decide +kernel
theorem dX1_divide_51 : decode cX1_divide 51 = .ok (.getfield 38, 3) := by decide +kernel
theorem dX1_divide_54 : decode cX1_divide 54 = .ok (.iload 4, 2) := by decide +kernel
theorem dX1_divide_56 : decode cX1_divide 56 = .ok (.iload 5, 2) := by decide +kernel
theorem dX1_divide_58 : decode cX1_divide 58 = .ok (.iastore, 1) := by decide +kernel
theorem dX1_divide_59 : decode cX1_divide 59 = .ok (.iinc 3 1, 3) := by decide +kernel
theorem dX1_divide_62 : decode cX1_divide 62 = .ok (.goto (-53), 3) := by decide +kernel
theorem dX1_divide_65 : decode cX1_divide 65 = .ok (.return_, 1) := by decide +kernel
set_option maxRecDepth 20000 in
theorem ggX1_isAddress_X3_isSector : GoodIn wsX1_isAddress wsX3_isSector := goodIn_r _ [4] (by decide +kernel) (by decide +kernel)
set_option maxRecDepth 20000 in
theorem gX1_isAddress_X3_isSector_n73 : GoodIn wsX1_isAddress (wsX3_isSector) := ggX1_isAddress_X3_isSector
set_option maxRecDepth 20000 in
theorem ggX1_isAddress_X3_placeOf : GoodIn wsX1_isAddress wsX3_placeOf := goodIn_r _ [6] (by decide +kernel) (by decide +kernel)
set_option maxRecDepth 20000 in
theorem gX1_isAddress_X3_placeOf_n76 : GoodIn wsX1_isAddress (wsX3_placeOf) := ggX1_isAddress_X3_placeOf
set_option maxRecDepth 20000 in
theorem ggX1_isAddress_X3_headOf : GoodIn wsX1_isAddress wsX3_headOf := goodIn_r _ [8] (by decide +kernel) (by decide +kernel)
set_option maxRecDepth 20000 in
theorem gX1_isAddress_X3_headOf_n80 : GoodIn wsX1_isAddress (wsX3_headOf) := ggX1_isAddress_X3_headOf
theorem dX1_isAddress_0 : decode cX1_isAddress 0 = .ok (.iload_n 1, 1) := by decide +kernel
theorem dX1_isAddress_1 : decode cX1_isAddress 1 = .ok (.invokestatic 73, 3) := by decide +kernel
theorem dX1_isAddress_4 : decode cX1_isAddress 4 = .ok (.ifCond .eq 26, 3) := by decide +kernel
theorem dX1_isAddress_7 : decode cX1_isAddress 7 = .ok (.iload_n 1, 1) := by decide +kernel
theorem dX1_isAddress_8 : decode cX1_isAddress 8 = .ok (.invokestatic 76, 3) := by decide +kernel
theorem dX1_isAddress_11 : decode cX1_isAddress 11 = .ok (.bipush 16, 2) := by decide +kernel
theorem dX1_isAddress_13 : decode cX1_isAddress 13 = .ok (.aload_n 0, 1) := by decide +kernel
theorem dX1_isAddress_14 : decode cX1_isAddress 14 = .ok (.getfield 19, 3) := by decide +kernel
theorem dX1_isAddress_17 : decode cX1_isAddress 17 = .ok (.iload_n 1, 1) := by decide +kernel
theorem dX1_isAddress_18 : decode cX1_isAddress 18 = .ok (.invokestatic 80, 3) := by decide +kernel
theorem dX1_isAddress_21 : decode cX1_isAddress 21 = .ok (.iaload, 1) := by decide +kernel
theorem dX1_isAddress_22 : decode cX1_isAddress 22 = .ok (.isub, 1) := by decide +kernel
theorem dX1_isAddress_23 : decode cX1_isAddress 23 = .ok (.if_icmp .ge 7, 3) := by decide +kernel
theorem dX1_isAddress_26 : decode cX1_isAddress 26 = .ok (.iconst 1, 1) := by decide +kernel
theorem dX1_isAddress_27 : decode cX1_isAddress 27 = .ok (.goto 4, 3) := by decide +kernel
theorem dX1_isAddress_30 : decode cX1_isAddress 30 = .ok (.iconst 0, 1) := by decide +kernel
theorem dX1_isAddress_31 : decode cX1_isAddress 31 = .ok (.ireturn, 1) := by decide +kernel
theorem dX1_isGivenUp_0 : decode cX1_isGivenUp 0 = .ok (.aload_n 0, 1) := by decide +kernel
theorem dX1_isGivenUp_1 : decode cX1_isGivenUp 1 = .ok (.getfield 22, 3) := by decide +kernel
theorem dX1_isGivenUp_4 : decode cX1_isGivenUp 4 = .ok (.iload_n 1, 1) := by decide +kernel
theorem dX1_isGivenUp_5 : decode cX1_isGivenUp 5 = .ok (.baload, 1) := by decide +kernel
theorem dX1_isGivenUp_6 : decode cX1_isGivenUp 6 = .ok (.ireturn, 1) := by decide +kernel
theorem dX1_othersAreGivenUp_0 : decode cX1_othersAreGivenUp 0 = .ok (.iconst 0, 1) := by decide +kernel
theorem dX1_othersAreGivenUp_1 : decode cX1_othersAreGivenUp 1 = .ok (.istore_n 2, 1) := by decide +kernel
theorem dX1_othersAreGivenUp_2 : decode cX1_othersAreGivenUp 2 = .ok (.iload_n 2, 1) := by decide +kernel
theorem dX1_othersAreGivenUp_3 : decode cX1_othersAreGivenUp 3 = .ok (.iconst 4, 1) := by decide +kernel
theorem dX1_othersAreGivenUp_4 : decode cX1_othersAreGivenUp 4 = .ok (.if_icmp .ge 25, 3) := by decide +kernel
theorem dX1_othersAreGivenUp_7 : decode cX1_othersAreGivenUp 7 = .ok (.iload_n 2, 1) := by decide +kernel
theorem dX1_othersAreGivenUp_8 : decode cX1_othersAreGivenUp 8 = .ok (.iload_n 1, 1) := by decide +kernel
theorem dX1_othersAreGivenUp_9 : decode cX1_othersAreGivenUp 9 = .ok (.if_icmp .eq 14, 3) := by decide +kernel
theorem dX1_othersAreGivenUp_12 : decode cX1_othersAreGivenUp 12 = .ok (.aload_n 0, 1) := by decide +kernel
theorem dX1_othersAreGivenUp_13 : decode cX1_othersAreGivenUp 13 = .ok (.getfield 22, 3) := by decide +kernel
theorem dX1_othersAreGivenUp_16 : decode cX1_othersAreGivenUp 16 = .ok (.iload_n 2, 1) := by decide +kernel
theorem dX1_othersAreGivenUp_17 : decode cX1_othersAreGivenUp 17 = .ok (.baload, 1) := by decide +kernel
theorem dX1_othersAreGivenUp_18 : decode cX1_othersAreGivenUp 18 = .ok (.ifCond .ne 5, 3) := by decide +kernel
theorem dX1_othersAreGivenUp_21 : decode cX1_othersAreGivenUp 21 = .ok (.iconst 0, 1) := by decide +kernel
theorem dX1_othersAreGivenUp_22 : decode cX1_othersAreGivenUp 22 = .ok (.ireturn, 1) := by decide +kernel
theorem dX1_othersAreGivenUp_23 : decode cX1_othersAreGivenUp 23 = .ok (.iinc 2 1, 3) := by decide +kernel
theorem dX1_othersAreGivenUp_26 : decode cX1_othersAreGivenUp 26 = .ok (.goto (-24), 3) := by decide +kernel
theorem dX1_othersAreGivenUp_29 : decode cX1_othersAreGivenUp 29 = .ok (.iconst 1, 1) := by decide +kernel
theorem dX1_othersAreGivenUp_30 : decode cX1_othersAreGivenUp 30 = .ok (.ireturn, 1) := by decide +kernel
theorem dX1_stepsSoFar_0 : decode cX1_stepsSoFar 0 = .ok (.aload_n 0, 1) := by decide +kernel
theorem dX1_stepsSoFar_1 : decode cX1_stepsSoFar 1 = .ok (.getfield 44, 3) := by decide +kernel
theorem dX1_stepsSoFar_4 : decode cX1_stepsSoFar 4 = .ok (.ireturn, 1) := by decide +kernel
theorem dX1_isLost_0 : decode cX1_isLost 0 = .ok (.aload_n 0, 1) := by decide +kernel
theorem dX1_isLost_1 : decode cX1_isLost 1 = .ok (.getfield 35, 3) := by decide +kernel
theorem dX1_isLost_4 : decode cX1_isLost 4 = .ok (.iload_n 1, 1) := by decide +kernel
theorem dX1_isLost_5 : decode cX1_isLost 5 = .ok (.iaload, 1) := by decide +kernel
theorem dX1_isLost_6 : decode cX1_isLost 6 = .ok (.bipush (-5), 2) := by decide +kernel
theorem dX1_isLost_8 : decode cX1_isLost 8 = .ok (.if_icmp .ne 7, 3) := by decide +kernel
theorem dX1_isLost_11 : decode cX1_isLost 11 = .ok (.iconst 1, 1) := by decide +kernel
theorem dX1_isLost_12 : decode cX1_isLost 12 = .ok (.goto 4, 3) := by decide +kernel
theorem dX1_isLost_15 : decode cX1_isLost 15 = .ok (.iconst 0, 1) := by decide +kernel
theorem dX1_isLost_16 : decode cX1_isLost 16 = .ok (.ireturn, 1) := by decide +kernel
set_option maxRecDepth 20000 in
theorem ggX1_isLongWay_X1_isLost : GoodIn wsX1_isLongWay wsX1_isLost := goodIn_r _ [6, 1, 7, 8, 9, 10, 11, 12, 13, 14, 15, 16, 17, 18, 19, 20, 21] (by decide +kernel) (by decide +kernel)
set_option maxRecDepth 20000 in
theorem gX1_isLongWay_X1_isLost : GoodIn wsX1_isLongWay (wsV RX1 83 RX1 yX1_isLost wsX1_isLost) := goodIn_app (goodIn_of _ (by decide +kernel)) ggX1_isLongWay_X1_isLost
theorem dX1_isLongWay_0 : decode cX1_isLongWay 0 = .ok (.aload_n 0, 1) := by decide +kernel
theorem dX1_isLongWay_1 : decode cX1_isLongWay 1 = .ok (.iload_n 1, 1) := by decide +kernel
theorem dX1_isLongWay_2 : decode cX1_isLongWay 2 = .ok (.invokevirtual 83, 3) := by decide +kernel
theorem dX1_isLongWay_5 : decode cX1_isLongWay 5 = .ok (.ifCond .ne 17, 3) := by decide +kernel
theorem dX1_isLongWay_8 : decode cX1_isLongWay 8 = .ok (.aload_n 0, 1) := by decide +kernel
theorem dX1_isLongWay_9 : decode cX1_isLongWay 9 = .ok (.getfield 35, 3) := by decide +kernel
theorem dX1_isLongWay_12 : decode cX1_isLongWay 12 = .ok (.iload_n 1, 1) := by decide +kernel
theorem dX1_isLongWay_13 : decode cX1_isLongWay 13 = .ok (.iaload, 1) := by decide +kernel
theorem dX1_isLongWay_14 : decode cX1_isLongWay 14 = .ok (.iload_n 1, 1) := by decide +kernel
theorem dX1_isLongWay_15 : decode cX1_isLongWay 15 = .ok (.if_icmp .eq 7, 3) := by decide +kernel
theorem dX1_isLongWay_18 : decode cX1_isLongWay 18 = .ok (.iconst 1, 1) := by decide +kernel
theorem dX1_isLongWay_19 : decode cX1_isLongWay 19 = .ok (.goto 4, 3) := by decide +kernel
theorem dX1_isLongWay_22 : decode cX1_isLongWay 22 = .ok (.iconst 0, 1) := by decide +kernel
theorem dX1_isLongWay_23 : decode cX1_isLongWay 23 = .ok (.ireturn, 1) := by decide +kernel
theorem dX1_isGood_0 : decode cX1_isGood 0 = .ok (.aload_n 0, 1) := by decide +kernel
theorem dX1_isGood_1 : decode cX1_isGood 1 = .ok (.getfield 26, 3) := by decide +kernel
theorem dX1_isGood_4 : decode cX1_isGood 4 = .ok (.iload_n 1, 1) := by decide +kernel
theorem dX1_isGood_5 : decode cX1_isGood 5 = .ok (.iaload, 1) := by decide +kernel
theorem dX1_isGood_6 : decode cX1_isGood 6 = .ok (.aload_n 0, 1) := by decide +kernel
theorem dX1_isGood_7 : decode cX1_isGood 7 = .ok (.getfield 9, 3) := by decide +kernel
theorem dX1_isGood_10 : decode cX1_isGood 10 = .ok (.if_icmp .ge 7, 3) := by decide +kernel
theorem dX1_isGood_13 : decode cX1_isGood 13 = .ok (.iconst 1, 1) := by decide +kernel
theorem dX1_isGood_14 : decode cX1_isGood 14 = .ok (.goto 4, 3) := by decide +kernel
theorem dX1_isGood_17 : decode cX1_isGood 17 = .ok (.iconst 0, 1) := by decide +kernel
theorem dX1_isGood_18 : decode cX1_isGood 18 = .ok (.ireturn, 1) := by decide +kernel
theorem dX1_isBad_0 : decode cX1_isBad 0 = .ok (.aload_n 0, 1) := by decide +kernel
theorem dX1_isBad_1 : decode cX1_isBad 1 = .ok (.getfield 26, 3) := by decide +kernel
theorem dX1_isBad_4 : decode cX1_isBad 4 = .ok (.iload_n 1, 1) := by decide +kernel
theorem dX1_isBad_5 : decode cX1_isBad 5 = .ok (.iaload, 1) := by decide +kernel
theorem dX1_isBad_6 : decode cX1_isBad 6 = .ok (.iconst 2, 1) := by decide +kernel
theorem dX1_isBad_7 : decode cX1_isBad 7 = .ok (.aload_n 0, 1) := by decide +kernel
theorem dX1_isBad_8 : decode cX1_isBad 8 = .ok (.getfield 9, 3) := by decide +kernel
theorem dX1_isBad_11 : decode cX1_isBad 11 = .ok (.imul, 1) := by decide +kernel
theorem dX1_isBad_12 : decode cX1_isBad 12 = .ok (.if_icmp .lt 7, 3) := by decide +kernel
theorem dX1_isBad_15 : decode cX1_isBad 15 = .ok (.iconst 1, 1) := by decide +kernel
theorem dX1_isBad_16 : decode cX1_isBad 16 = .ok (.goto 4, 3) := by decide +kernel
theorem dX1_isBad_19 : decode cX1_isBad 19 = .ok (.iconst 0, 1) := by decide +kernel
theorem dX1_isBad_20 : decode cX1_isBad 20 = .ok (.ireturn, 1) := by decide +kernel
set_option maxRecDepth 20000 in
theorem ggX1_gradeOf_X1_isGood : GoodIn wsX1_gradeOf wsX1_isGood := goodIn_r _ [5, 6, 7, 12, 13, 14, 15, 16, 17, 18, 19, 20, 21, 22, 23, 24, 25, 26] (by decide +kernel) (by decide +kernel)
set_option maxRecDepth 20000 in
theorem gX1_gradeOf_X1_isGood : GoodIn wsX1_gradeOf (wsV RX1 86 RX1 yX1_isGood wsX1_isGood) := goodIn_app (goodIn_of _ (by decide +kernel)) ggX1_gradeOf_X1_isGood
set_option maxRecDepth 20000 in
theorem ggX1_gradeOf_X1_isBad : GoodIn wsX1_gradeOf wsX1_isBad := goodIn_r _ [11, 6, 7, 12, 13, 14, 15, 16, 17, 18, 19, 20, 21, 22, 23, 24, 25, 26] (by decide +kernel) (by decide +kernel)
set_option maxRecDepth 20000 in
theorem gX1_gradeOf_X1_isBad : GoodIn wsX1_gradeOf (wsV RX1 89 RX1 yX1_isBad wsX1_isBad) := goodIn_app (goodIn_of _ (by decide +kernel)) ggX1_gradeOf_X1_isBad
theorem dX1_gradeOf_0 : decode cX1_gradeOf 0 = .ok (.aload_n 0, 1) := by decide +kernel
theorem dX1_gradeOf_1 : decode cX1_gradeOf 1 = .ok (.iload_n 1, 1) := by decide +kernel
theorem dX1_gradeOf_2 : decode cX1_gradeOf 2 = .ok (.invokevirtual 86, 3) := by decide +kernel
theorem dX1_gradeOf_5 : decode cX1_gradeOf 5 = .ok (.ifCond .eq 5, 3) := by decide +kernel
theorem dX1_gradeOf_8 : decode cX1_gradeOf 8 = .ok (.iconst 0, 1) := by decide +kernel
theorem dX1_gradeOf_9 : decode cX1_gradeOf 9 = .ok (.ireturn, 1) := by decide +kernel
theorem dX1_gradeOf_10 : decode cX1_gradeOf 10 = .ok (.aload_n 0, 1) := by decide +kernel
theorem dX1_gradeOf_11 : decode cX1_gradeOf 11 = .ok (.iload_n 1, 1) := by decide +kernel
theorem dX1_gradeOf_12 : decode cX1_gradeOf 12 = .ok (.invokevirtual 89, 3) := by decide +kernel
theorem dX1_gradeOf_15 : decode cX1_gradeOf 15 = .ok (.ifCond .eq 7, 3) := by decide +kernel
theorem dX1_gradeOf_18 : decode cX1_gradeOf 18 = .ok (.iconst 2, 1) := by decide +kernel
theorem dX1_gradeOf_19 : decode cX1_gradeOf 19 = .ok (.goto 4, 3) := by decide +kernel
theorem dX1_gradeOf_22 : decode cX1_gradeOf 22 = .ok (.iconst 1, 1) := by decide +kernel
theorem dX1_gradeOf_23 : decode cX1_gradeOf 23 = .ok (.ireturn, 1) := by decide +kernel
set_option maxRecDepth 20000 in
theorem ggX1_isFree_X3_headOf : GoodIn wsX1_isFree wsX3_headOf := goodIn_r _ [6] (by decide +kernel) (by decide +kernel)
set_option maxRecDepth 20000 in
theorem gX1_isFree_X3_headOf_n80 : GoodIn wsX1_isFree (wsX3_headOf) := ggX1_isFree_X3_headOf
set_option maxRecDepth 20000 in
theorem ggX1_isFree_X3_placeOf : GoodIn wsX1_isFree wsX3_placeOf := goodIn_r _ [8] (by decide +kernel) (by decide +kernel)
set_option maxRecDepth 20000 in
theorem gX1_isFree_X3_placeOf_n76 : GoodIn wsX1_isFree (wsX3_placeOf) := ggX1_isFree_X3_placeOf
set_option maxRecDepth 20000 in
theorem ggX1_isFree_X1_isGood : GoodIn wsX1_isFree wsX1_isGood := goodIn_r _ [13, 14, 15, 16, 17, 18, 19, 20, 21, 22, 23, 24, 25, 26, 27, 28, 29, 30] (by decide +kernel) (by decide +kernel)
set_option maxRecDepth 20000 in
theorem gX1_isFree_X1_isGood : GoodIn wsX1_isFree (wsV RX1 86 RX1 yX1_isGood wsX1_isGood) := goodIn_app (goodIn_of _ (by decide +kernel)) ggX1_isFree_X1_isGood
theorem dX1_isFree_0 : decode cX1_isFree 0 = .ok (.iload_n 1, 1) := by decide +kernel
theorem dX1_isFree_1 : decode cX1_isFree 1 = .ok (.invokestatic 80, 3) := by decide +kernel
theorem dX1_isFree_4 : decode cX1_isFree 4 = .ok (.istore_n 2, 1) := by decide +kernel
theorem dX1_isFree_5 : decode cX1_isFree 5 = .ok (.iload_n 1, 1) := by decide +kernel
theorem dX1_isFree_6 : decode cX1_isFree 6 = .ok (.invokestatic 76, 3) := by decide +kernel
theorem dX1_isFree_9 : decode cX1_isFree 9 = .ok (.bipush 16, 2) := by decide +kernel
theorem dX1_isFree_11 : decode cX1_isFree 11 = .ok (.aload_n 0, 1) := by decide +kernel
theorem dX1_isFree_12 : decode cX1_isFree 12 = .ok (.getfield 19, 3) := by decide +kernel
theorem dX1_isFree_15 : decode cX1_isFree 15 = .ok (.iload_n 2, 1) := by decide +kernel
theorem dX1_isFree_16 : decode cX1_isFree 16 = .ok (.iaload, 1) := by decide +kernel
theorem dX1_isFree_17 : decode cX1_isFree 17 = .ok (.isub, 1) := by decide +kernel
theorem dX1_isFree_18 : decode cX1_isFree 18 = .ok (.if_icmp .lt 7, 3) := by decide +kernel
theorem dX1_isFree_21 : decode cX1_isFree 21 = .ok (.iconst 1, 1) := by decide +kernel
theorem dX1_isFree_22 : decode cX1_isFree 22 = .ok (.goto 4, 3) := by decide +kernel
theorem dX1_isFree_25 : decode cX1_isFree 25 = .ok (.iconst 0, 1) := by decide +kernel
theorem dX1_isFree_26 : decode cX1_isFree 26 = .ok (.istore_n 3, 1) := by decide +kernel
theorem dX1_isFree_27 : decode cX1_isFree 27 = .ok (.iload_n 3, 1) := by decide +kernel
theorem dX1_isFree_28 : decode cX1_isFree 28 = .ok (.ifCond .eq 35, 3) := by decide +kernel
theorem dX1_isFree_31 : decode cX1_isFree 31 = .ok (.aload_n 0, 1) := by decide +kernel
theorem dX1_isFree_32 : decode cX1_isFree 32 = .ok (.getfield 38, 3) := by decide +kernel
theorem dX1_isFree_35 : decode cX1_isFree 35 = .ok (.iload_n 1, 1) := by decide +kernel
theorem dX1_isFree_36 : decode cX1_isFree 36 = .ok (.iaload, 1) := by decide +kernel
theorem dX1_isFree_37 : decode cX1_isFree 37 = .ok (.bipush (-5), 2) := by decide +kernel
theorem dX1_isFree_39 : decode cX1_isFree 39 = .ok (.if_icmp .ne 24, 3) := by decide +kernel
theorem dX1_isFree_42 : decode cX1_isFree 42 = .ok (.aload_n 0, 1) := by decide +kernel
theorem dX1_isFree_43 : decode cX1_isFree 43 = .ok (.iload_n 1, 1) := by decide +kernel
theorem dX1_isFree_44 : decode cX1_isFree 44 = .ok (.invokevirtual 86, 3) := by decide +kernel
theorem dX1_isFree_47 : decode cX1_isFree 47 = .ok (.ifCond .eq 16, 3) := by decide +kernel
theorem dX1_isFree_50 : decode cX1_isFree 50 = .ok (.aload_n 0, 1) := by decide +kernel
theorem dX1_isFree_51 : decode cX1_isFree 51 = .ok (.getfield 22, 3) := by decide +kernel
theorem dX1_isFree_54 : decode cX1_isFree 54 = .ok (.iload_n 2, 1) := by decide +kernel
theorem dX1_isFree_55 : decode cX1_isFree 55 = .ok (.baload, 1) := by decide +kernel
theorem dX1_isFree_56 : decode cX1_isFree 56 = .ok (.ifCond .ne 7, 3) := by decide +kernel
theorem dX1_isFree_59 : decode cX1_isFree 59 = .ok (.iconst 1, 1) := by decide +kernel
theorem dX1_isFree_60 : decode cX1_isFree 60 = .ok (.goto 4, 3) := by decide +kernel
theorem dX1_isFree_63 : decode cX1_isFree 63 = .ok (.iconst 0, 1) := by decide +kernel
theorem dX1_isFree_64 : decode cX1_isFree 64 = .ok (.ireturn, 1) := by decide +kernel
set_option maxRecDepth 20000 in
theorem ggX1_freeOf_X1_isFree : GoodIn wsX1_freeOf wsX1_isFree := goodIn_r _ [5, 6, 7, 8, 9, 10, 11, 12, 13, 14, 15, 16, 4, 17, 18, 19, 20, 21, 22, 23, 24, 25, 26, 27, 28, 29, 30, 31, 32, 33, 34] (by decide +kernel) (by decide +kernel)
set_option maxRecDepth 20000 in
theorem gX1_freeOf_X1_isFree : GoodIn wsX1_freeOf (wsV RX1 92 RX1 yX1_isFree wsX1_isFree) := goodIn_app (goodIn_of _ (by decide +kernel)) ggX1_freeOf_X1_isFree
theorem dX1_freeOf_0 : decode cX1_freeOf 0 = .ok (.iconst 0, 1) := by decide +kernel
theorem dX1_freeOf_1 : decode cX1_freeOf 1 = .ok (.istore_n 2, 1) := by decide +kernel
theorem dX1_freeOf_2 : decode cX1_freeOf 2 = .ok (.iconst 0, 1) := by decide +kernel
theorem dX1_freeOf_3 : decode cX1_freeOf 3 = .ok (.istore_n 3, 1) := by decide +kernel
theorem dX1_freeOf_4 : decode cX1_freeOf 4 = .ok (.iload_n 3, 1) := by decide +kernel
theorem dX1_freeOf_5 : decode cX1_freeOf 5 = .ok (.bipush 16, 2) := by decide +kernel
theorem dX1_freeOf_7 : decode cX1_freeOf 7 = .ok (.if_icmp .ge 25, 3) := by decide +kernel
theorem dX1_freeOf_10 : decode cX1_freeOf 10 = .ok (.aload_n 0, 1) := by decide +kernel
theorem dX1_freeOf_11 : decode cX1_freeOf 11 = .ok (.iload_n 1, 1) := by decide +kernel
theorem dX1_freeOf_12 : decode cX1_freeOf 12 = .ok (.bipush 16, 2) := by decide +kernel
theorem dX1_freeOf_14 : decode cX1_freeOf 14 = .ok (.imul, 1) := by decide +kernel
theorem dX1_freeOf_15 : decode cX1_freeOf 15 = .ok (.iload_n 3, 1) := by decide +kernel
theorem dX1_freeOf_16 : decode cX1_freeOf 16 = .ok (.iadd, 1) := by decide +kernel
theorem dX1_freeOf_17 : decode cX1_freeOf 17 = .ok (.invokevirtual 92, 3) := by decide +kernel
theorem dX1_freeOf_20 : decode cX1_freeOf 20 = .ok (.ifCond .eq 6, 3) := by decide +kernel
theorem dX1_freeOf_23 : decode cX1_freeOf 23 = .ok (.iinc 2 1, 3) := by decide +kernel
theorem dX1_freeOf_26 : decode cX1_freeOf 26 = .ok (.iinc 3 1, 3) := by decide +kernel
theorem dX1_freeOf_29 : decode cX1_freeOf 29 = .ok (.goto (-25), 3) := by decide +kernel
theorem dX1_freeOf_32 : decode cX1_freeOf 32 = .ok (.iload_n 2, 1) := by decide +kernel
theorem dX1_freeOf_33 : decode cX1_freeOf 33 = .ok (.ireturn, 1) := by decide +kernel
set_option maxRecDepth 20000 in
theorem ggX1_firstFreeOf_X1_isFree : GoodIn wsX1_firstFreeOf wsX1_isFree := goodIn_r _ [5, 6, 7, 8, 9, 10, 11, 12, 13, 14, 15, 16, 4, 17, 18, 19, 20, 21, 22, 23, 24, 25, 26, 27, 28, 29, 30, 31, 32, 33, 34] (by decide +kernel) (by decide +kernel)
set_option maxRecDepth 20000 in
theorem gX1_firstFreeOf_X1_isFree : GoodIn wsX1_firstFreeOf (wsV RX1 92 RX1 yX1_isFree wsX1_isFree) := goodIn_app (goodIn_of _ (by decide +kernel)) ggX1_firstFreeOf_X1_isFree
theorem dX1_firstFreeOf_0 : decode cX1_firstFreeOf 0 = .ok (.iconst 0, 1) := by decide +kernel
theorem dX1_firstFreeOf_1 : decode cX1_firstFreeOf 1 = .ok (.istore_n 2, 1) := by decide +kernel
theorem dX1_firstFreeOf_2 : decode cX1_firstFreeOf 2 = .ok (.iload_n 2, 1) := by decide +kernel
theorem dX1_firstFreeOf_3 : decode cX1_firstFreeOf 3 = .ok (.bipush 16, 2) := by decide +kernel
theorem dX1_firstFreeOf_5 : decode cX1_firstFreeOf 5 = .ok (.if_icmp .ge 29, 3) := by decide +kernel
theorem dX1_firstFreeOf_8 : decode cX1_firstFreeOf 8 = .ok (.aload_n 0, 1) := by decide +kernel
theorem dX1_firstFreeOf_9 : decode cX1_firstFreeOf 9 = .ok (.iload_n 1, 1) := by decide +kernel
theorem dX1_firstFreeOf_10 : decode cX1_firstFreeOf 10 = .ok (.bipush 16, 2) := by decide +kernel
theorem dX1_firstFreeOf_12 : decode cX1_firstFreeOf 12 = .ok (.imul, 1) := by decide +kernel
theorem dX1_firstFreeOf_13 : decode cX1_firstFreeOf 13 = .ok (.iload_n 2, 1) := by decide +kernel
theorem dX1_firstFreeOf_14 : decode cX1_firstFreeOf 14 = .ok (.iadd, 1) := by decide +kernel
theorem dX1_firstFreeOf_15 : decode cX1_firstFreeOf 15 = .ok (.invokevirtual 92, 3) := by decide +kernel
theorem dX1_firstFreeOf_18 : decode cX1_firstFreeOf 18 = .ok (.ifCond .eq 10, 3) := by decide +kernel
theorem dX1_firstFreeOf_21 : decode cX1_firstFreeOf 21 = .ok (.iload_n 1, 1) := by decide +kernel
theorem dX1_firstFreeOf_22 : decode cX1_firstFreeOf 22 = .ok (.bipush 16, 2) := by decide +kernel
theorem dX1_firstFreeOf_24 : decode cX1_firstFreeOf 24 = .ok (.imul, 1) := by decide +kernel
theorem dX1_firstFreeOf_25 : decode cX1_firstFreeOf 25 = .ok (.iload_n 2, 1) := by decide +kernel
theorem dX1_firstFreeOf_26 : decode cX1_firstFreeOf 26 = .ok (.iadd, 1) := by decide +kernel
theorem dX1_firstFreeOf_27 : decode cX1_firstFreeOf 27 = .ok (.ireturn, 1) := by decide +kernel
theorem dX1_firstFreeOf_28 : decode cX1_firstFreeOf 28 = .ok (.iinc 2 1, 3) := by decide +kernel
theorem dX1_firstFreeOf_31 : decode cX1_firstFreeOf 31 = .ok (.goto (-29), 3) := by decide +kernel
theorem dX1_firstFreeOf_34 : decode cX1_firstFreeOf 34 = .ok (.bipush (-5), 2) := by decide +kernel
theorem dX1_firstFreeOf_36 : decode cX1_firstFreeOf 36 = .ok (.ireturn, 1) := by decide +kernel
set_option maxRecDepth 20000 in
theorem ggX1_lendableTo_X3_headOf : GoodIn wsX1_lendableTo wsX3_headOf := goodIn_r _ [3] (by decide +kernel) (by decide +kernel)
set_option maxRecDepth 20000 in
theorem gX1_lendableTo_X3_headOf_n80 : GoodIn wsX1_lendableTo (wsX3_headOf) := ggX1_lendableTo_X3_headOf
set_option maxRecDepth 20000 in
theorem ggX1_lendableTo_X1_firstFreeOf : GoodIn wsX1_lendableTo wsX1_firstFreeOf := goodIn_r _ [8, 9, 10, 11, 7, 12, 13, 14, 15, 1, 2, 3, 16, 17, 18, 19, 20, 21, 22, 23, 28, 29, 30, 31, 32, 33, 34, 35, 36, 37, 38, 39, 40, 41, 42] (by decide +kernel) (by decide +kernel)
set_option maxRecDepth 20000 in
theorem gX1_lendableTo_X1_firstFreeOf : GoodIn wsX1_lendableTo (wsV RX1 95 RX1 yX1_firstFreeOf wsX1_firstFreeOf) := goodIn_app (goodIn_of _ (by decide +kernel)) ggX1_lendableTo_X1_firstFreeOf
set_option maxRecDepth 20000 in
theorem ggX1_lendableTo_X1_freeOf : GoodIn wsX1_lendableTo wsX1_freeOf := goodIn_r _ [27, 9, 10, 11, 7, 12, 13, 14, 15, 1, 2, 3, 16, 17, 18, 19, 20, 21, 22, 23, 28, 29, 30, 31, 32, 33, 34, 35, 36, 37, 38, 39, 40, 41, 42] (by decide +kernel) (by decide +kernel)
set_option maxRecDepth 20000 in
theorem gX1_lendableTo_X1_freeOf : GoodIn wsX1_lendableTo (wsV RX1 98 RX1 yX1_freeOf wsX1_freeOf) := goodIn_app (goodIn_of _ (by decide +kernel)) ggX1_lendableTo_X1_freeOf
theorem dX1_lendableTo_0 : decode cX1_lendableTo 0 = .ok (.aload_n 0, 1) := by decide +kernel
theorem dX1_lendableTo_1 : decode cX1_lendableTo 1 = .ok (.iload_n 1, 1) := by decide +kernel
theorem dX1_lendableTo_2 : decode cX1_lendableTo 2 = .ok (.invokestatic 80, 3) := by decide +kernel
theorem dX1_lendableTo_5 : decode cX1_lendableTo 5 = .ok (.invokevirtual 95, 3) := by decide +kernel
theorem dX1_lendableTo_8 : decode cX1_lendableTo 8 = .ok (.istore_n 2, 1) := by decide +kernel
theorem dX1_lendableTo_9 : decode cX1_lendableTo 9 = .ok (.iload_n 2, 1) := by decide +kernel
theorem dX1_lendableTo_10 : decode cX1_lendableTo 10 = .ok (.bipush (-5), 2) := by decide +kernel
theorem dX1_lendableTo_12 : decode cX1_lendableTo 12 = .ok (.if_icmp .eq 5, 3) := by decide +kernel
theorem dX1_lendableTo_15 : decode cX1_lendableTo 15 = .ok (.iload_n 2, 1) := by decide +kernel
theorem dX1_lendableTo_16 : decode cX1_lendableTo 16 = .ok (.ireturn, 1) := by decide +kernel
theorem dX1_lendableTo_17 : decode cX1_lendableTo 17 = .ok (.iconst 0, 1) := by decide +kernel
theorem dX1_lendableTo_18 : decode cX1_lendableTo 18 = .ok (.istore_n 3, 1) := by decide +kernel
theorem dX1_lendableTo_19 : decode cX1_lendableTo 19 = .ok (.iconst 0, 1) := by decide +kernel
theorem dX1_lendableTo_20 : decode cX1_lendableTo 20 = .ok (.istore 4, 2) := by decide +kernel
theorem dX1_lendableTo_22 : decode cX1_lendableTo 22 = .ok (.iconst 0, 1) := by decide +kernel
theorem dX1_lendableTo_23 : decode cX1_lendableTo 23 = .ok (.istore 5, 2) := by decide +kernel
theorem dX1_lendableTo_25 : decode cX1_lendableTo 25 = .ok (.iload 5, 2) := by decide +kernel
theorem dX1_lendableTo_27 : decode cX1_lendableTo 27 = .ok (.iconst 4, 1) := by decide +kernel
theorem dX1_lendableTo_28 : decode cX1_lendableTo 28 = .ok (.if_icmp .ge 31, 3) := by decide +kernel
theorem dX1_lendableTo_31 : decode cX1_lendableTo 31 = .ok (.aload_n 0, 1) := by decide +kernel
theorem dX1_lendableTo_32 : decode cX1_lendableTo 32 = .ok (.iload 5, 2) := by decide +kernel
theorem dX1_lendableTo_34 : decode cX1_lendableTo 34 = .ok (.invokevirtual 98, 3) := by decide +kernel
theorem dX1_lendableTo_37 : decode cX1_lendableTo 37 = .ok (.istore 6, 2) := by decide +kernel
theorem dX1_lendableTo_39 : decode cX1_lendableTo 39 = .ok (.iload 6, 2) := by decide +kernel
theorem dX1_lendableTo_41 : decode cX1_lendableTo 41 = .ok (.iload 4, 2) := by decide +kernel
theorem dX1_lendableTo_43 : decode cX1_lendableTo 43 = .ok (.if_icmp .le 10, 3) := by decide +kernel
theorem dX1_lendableTo_46 : decode cX1_lendableTo 46 = .ok (.iload 5, 2) := by decide +kernel
theorem dX1_lendableTo_48 : decode cX1_lendableTo 48 = .ok (.istore_n 3, 1) := by decide +kernel
theorem dX1_lendableTo_49 : decode cX1_lendableTo 49 = .ok (.iload 6, 2) := by decide +kernel
theorem dX1_lendableTo_51 : decode cX1_lendableTo 51 = .ok (.istore 4, 2) := by decide +kernel
theorem dX1_lendableTo_53 : decode cX1_lendableTo 53 = .ok (.iinc 5 1, 3) := by decide +kernel
theorem dX1_lendableTo_56 : decode cX1_lendableTo 56 = .ok (.goto (-31), 3) := by decide +kernel
theorem dX1_lendableTo_59 : decode cX1_lendableTo 59 = .ok (.aload_n 0, 1) := by decide +kernel
theorem dX1_lendableTo_60 : decode cX1_lendableTo 60 = .ok (.iload_n 3, 1) := by decide +kernel
theorem dX1_lendableTo_61 : decode cX1_lendableTo 61 = .ok (.invokevirtual 95, 3) := by decide +kernel
theorem dX1_lendableTo_64 : decode cX1_lendableTo 64 = .ok (.ireturn, 1) := by decide +kernel
set_option maxRecDepth 20000 in
theorem ggX1_stepsTo_X3_headOf : GoodIn wsX1_stepsTo wsX3_headOf := goodIn_r _ [6] (by decide +kernel) (by decide +kernel)
set_option maxRecDepth 20000 in
theorem gX1_stepsTo_X3_headOf_n80 : GoodIn wsX1_stepsTo (wsX3_headOf) := ggX1_stepsTo_X3_headOf
set_option maxRecDepth 20000 in
theorem ggX1_stepsTo_X3_stepsBetween : GoodIn wsX1_stepsTo wsX3_stepsBetween := goodIn_r _ [8, 9, 10, 11, 12, 13, 14, 5, 15, 16, 4, 6] (by decide +kernel) (by decide +kernel)
set_option maxRecDepth 20000 in
theorem gX1_stepsTo_X3_stepsBetween_n101 : GoodIn wsX1_stepsTo (wsX3_stepsBetween) := ggX1_stepsTo_X3_stepsBetween
theorem dX1_stepsTo_0 : decode cX1_stepsTo 0 = .ok (.aload_n 0, 1) := by decide +kernel
theorem dX1_stepsTo_1 : decode cX1_stepsTo 1 = .ok (.getfield 35, 3) := by decide +kernel
theorem dX1_stepsTo_4 : decode cX1_stepsTo 4 = .ok (.iload_n 1, 1) := by decide +kernel
theorem dX1_stepsTo_5 : decode cX1_stepsTo 5 = .ok (.iaload, 1) := by decide +kernel
theorem dX1_stepsTo_6 : decode cX1_stepsTo 6 = .ok (.istore_n 2, 1) := by decide +kernel
theorem dX1_stepsTo_7 : decode cX1_stepsTo 7 = .ok (.iload_n 2, 1) := by decide +kernel
theorem dX1_stepsTo_8 : decode cX1_stepsTo 8 = .ok (.iload_n 1, 1) := by decide +kernel
theorem dX1_stepsTo_9 : decode cX1_stepsTo 9 = .ok (.if_icmp .eq 15, 3) := by decide +kernel
theorem dX1_stepsTo_12 : decode cX1_stepsTo 12 = .ok (.aload_n 0, 1) := by decide +kernel
theorem dX1_stepsTo_13 : decode cX1_stepsTo 13 = .ok (.getfield 22, 3) := by decide +kernel
theorem dX1_stepsTo_16 : decode cX1_stepsTo 16 = .ok (.iload_n 1, 1) := by decide +kernel
theorem dX1_stepsTo_17 : decode cX1_stepsTo 17 = .ok (.invokestatic 80, 3) := by decide +kernel
theorem dX1_stepsTo_20 : decode cX1_stepsTo 20 = .ok (.baload, 1) := by decide +kernel
theorem dX1_stepsTo_21 : decode cX1_stepsTo 21 = .ok (.ifCond .eq 12, 3) := by decide +kernel
theorem dX1_stepsTo_24 : decode cX1_stepsTo 24 = .ok (.aload_n 0, 1) := by decide +kernel
theorem dX1_stepsTo_25 : decode cX1_stepsTo 25 = .ok (.getfield 41, 3) := by decide +kernel
theorem dX1_stepsTo_28 : decode cX1_stepsTo 28 = .ok (.iload_n 2, 1) := by decide +kernel
theorem dX1_stepsTo_29 : decode cX1_stepsTo 29 = .ok (.invokestatic 101, 3) := by decide +kernel
theorem dX1_stepsTo_32 : decode cX1_stepsTo 32 = .ok (.ireturn, 1) := by decide +kernel
theorem dX1_stepsTo_33 : decode cX1_stepsTo 33 = .ok (.aload_n 0, 1) := by decide +kernel
theorem dX1_stepsTo_34 : decode cX1_stepsTo 34 = .ok (.getfield 41, 3) := by decide +kernel
theorem dX1_stepsTo_37 : decode cX1_stepsTo 37 = .ok (.iload_n 1, 1) := by decide +kernel
theorem dX1_stepsTo_38 : decode cX1_stepsTo 38 = .ok (.invokestatic 101, 3) := by decide +kernel
theorem dX1_stepsTo_41 : decode cX1_stepsTo 41 = .ok (.iload_n 1, 1) := by decide +kernel
theorem dX1_stepsTo_42 : decode cX1_stepsTo 42 = .ok (.iload_n 2, 1) := by decide +kernel
theorem dX1_stepsTo_43 : decode cX1_stepsTo 43 = .ok (.invokestatic 101, 3) := by decide +kernel
theorem dX1_stepsTo_46 : decode cX1_stepsTo 46 = .ok (.iadd, 1) := by decide +kernel
theorem dX1_stepsTo_47 : decode cX1_stepsTo 47 = .ok (.ireturn, 1) := by decide +kernel
theorem dX1_changeLimit_0 : decode cX1_changeLimit 0 = .ok (.iload_n 1, 1) := by decide +kernel
theorem dX1_changeLimit_1 : decode cX1_changeLimit 1 = .ok (.iconst 1, 1) := by decide +kernel
theorem dX1_changeLimit_2 : decode cX1_changeLimit 2 = .ok (.if_icmp .lt 10, 3) := by decide +kernel
theorem dX1_changeLimit_5 : decode cX1_changeLimit 5 = .ok (.iload_n 1, 1) := by decide +kernel
theorem dX1_changeLimit_6 : decode cX1_changeLimit 6 = .ok (.sipush 999, 3) := by decide +kernel
theorem dX1_changeLimit_9 : decode cX1_changeLimit 9 = .ok (.if_icmp .le 6, 3) := by decide +kernel
theorem dX1_changeLimit_12 : decode cX1_changeLimit 12 = .ok (.bipush (-2), 2) := by decide +kernel
theorem dX1_changeLimit_14 : decode cX1_changeLimit 14 = .ok (.ireturn, 1) := by decide +kernel
theorem dX1_changeLimit_15 : decode cX1_changeLimit 15 = .ok (.aload_n 0, 1) := by decide +kernel
theorem dX1_changeLimit_16 : decode cX1_changeLimit 16 = .ok (.getfield 9, 3) := by decide +kernel
theorem dX1_changeLimit_19 : decode cX1_changeLimit 19 = .ok (.istore_n 2, 1) := by decide +kernel
theorem dX1_changeLimit_20 : decode cX1_changeLimit 20 = .ok (.aload_n 0, 1) := by decide +kernel
theorem dX1_changeLimit_21 : decode cX1_changeLimit 21 = .ok (.iload_n 1, 1) := by decide +kernel
theorem dX1_changeLimit_22 : decode cX1_changeLimit 22 = .ok (.putfield 9, 3) := by decide +kernel
theorem dX1_changeLimit_25 : decode cX1_changeLimit 25 = .ok (.iload_n 2, 1) := by decide +kernel
theorem dX1_changeLimit_26 : decode cX1_changeLimit 26 = .ok (.iload_n 1, 1) := by decide +kernel
theorem dX1_changeLimit_27 : decode cX1_changeLimit 27 = .ok (.if_icmp .ne 8, 3) := by decide +kernel
theorem dX1_changeLimit_30 : decode cX1_changeLimit 30 = .ok (.bipush (-5), 2) := by decide +kernel
theorem dX1_changeLimit_32 : decode cX1_changeLimit 32 = .ok (.goto 4, 3) := by decide +kernel
theorem dX1_changeLimit_35 : decode cX1_changeLimit 35 = .ok (.iload_n 2, 1) := by decide +kernel
theorem dX1_changeLimit_36 : decode cX1_changeLimit 36 = .ok (.ireturn, 1) := by decide +kernel
theorem dX1_changeAgeing_0 : decode cX1_changeAgeing 0 = .ok (.iload_n 2, 1) := by decide +kernel
theorem dX1_changeAgeing_1 : decode cX1_changeAgeing 1 = .ok (.iconst 1, 1) := by decide +kernel
theorem dX1_changeAgeing_2 : decode cX1_changeAgeing 2 = .ok (.if_icmp .lt 9, 3) := by decide +kernel
theorem dX1_changeAgeing_5 : decode cX1_changeAgeing 5 = .ok (.iload_n 2, 1) := by decide +kernel
theorem dX1_changeAgeing_6 : decode cX1_changeAgeing 6 = .ok (.bipush 9, 2) := by decide +kernel
theorem dX1_changeAgeing_8 : decode cX1_changeAgeing 8 = .ok (.if_icmp .le 6, 3) := by decide +kernel
theorem dX1_changeAgeing_11 : decode cX1_changeAgeing 11 = .ok (.bipush (-2), 2) := by decide +kernel
theorem dX1_changeAgeing_13 : decode cX1_changeAgeing 13 = .ok (.ireturn, 1) := by decide +kernel
theorem dX1_changeAgeing_14 : decode cX1_changeAgeing 14 = .ok (.aload_n 0, 1) := by decide +kernel
theorem dX1_changeAgeing_15 : decode cX1_changeAgeing 15 = .ok (.getfield 15, 3) := by decide +kernel
theorem dX1_changeAgeing_18 : decode cX1_changeAgeing 18 = .ok (.iload_n 1, 1) := by decide +kernel
theorem dX1_changeAgeing_19 : decode cX1_changeAgeing 19 = .ok (.iaload, 1) := by decide +kernel
theorem dX1_changeAgeing_20 : decode cX1_changeAgeing 20 = .ok (.istore_n 3, 1) := by decide +kernel
theorem dX1_changeAgeing_21 : decode cX1_changeAgeing 21 = .ok (.aload_n 0, 1) := by decide +kernel
theorem dX1_changeAgeing_22 : decode cX1_changeAgeing 22 = .ok (.getfield 15, 3) := by decide +kernel
theorem dX1_changeAgeing_25 : decode cX1_changeAgeing 25 = .ok (.iload_n 1, 1) := by decide +kernel
theorem dX1_changeAgeing_26 : decode cX1_changeAgeing 26 = .ok (.iload_n 2, 1) := by decide +kernel
theorem dX1_changeAgeing_27 : decode cX1_changeAgeing 27 = .ok (.iastore, 1) := by decide +kernel
theorem dX1_changeAgeing_28 : decode cX1_changeAgeing 28 = .ok (.iload_n 3, 1) := by decide +kernel
theorem dX1_changeAgeing_29 : decode cX1_changeAgeing 29 = .ok (.iload_n 2, 1) := by decide +kernel
theorem dX1_changeAgeing_30 : decode cX1_changeAgeing 30 = .ok (.if_icmp .ne 8, 3) := by decide +kernel
theorem dX1_changeAgeing_33 : decode cX1_changeAgeing 33 = .ok (.bipush (-5), 2) := by decide +kernel
theorem dX1_changeAgeing_35 : decode cX1_changeAgeing 35 = .ok (.goto 4, 3) := by decide +kernel
theorem dX1_changeAgeing_38 : decode cX1_changeAgeing 38 = .ok (.iload_n 3, 1) := by decide +kernel
theorem dX1_changeAgeing_39 : decode cX1_changeAgeing 39 = .ok (.ireturn, 1) := by decide +kernel
set_option maxRecDepth 20000 in
theorem ggX1_changeSpares_X1_wearOf : GoodIn wsX1_changeSpares wsX1_wearOf := goodIn_r _ [7, 8, 26, 27, 28, 29, 30, 31, 32, 33, 34, 35, 36, 37, 38, 39, 40] (by decide +kernel) (by decide +kernel)
set_option maxRecDepth 20000 in
theorem gX1_changeSpares_X1_wearOf : GoodIn wsX1_changeSpares (wsV RX1 105 RX1 yX1_wearOf wsX1_wearOf) := goodIn_app (goodIn_of _ (by decide +kernel)) ggX1_changeSpares_X1_wearOf
set_option maxRecDepth 20000 in
theorem ggX1_changeSpares_X1_divide : GoodIn wsX1_changeSpares wsX1_divide := goodIn_r _ [12, 2, 13, 14, 15, 16, 17, 6, 18, 19, 20, 21, 22, 23, 24, 25, 26, 27, 28, 29, 30, 31, 32, 33, 34, 35, 36, 37, 38, 39, 40] (by decide +kernel) (by decide +kernel)
set_option maxRecDepth 20000 in
theorem gX1_changeSpares_X1_divide : GoodIn wsX1_changeSpares (wsV RX1 59 RX1 yX1_divide wsX1_divide) := goodIn_app (goodIn_of _ (by decide +kernel)) ggX1_changeSpares_X1_divide
theorem dX1_changeSpares_0 : decode cX1_changeSpares 0 = .ok (.iload_n 2, 1) := by decide +kernel
theorem dX1_changeSpares_1 : decode cX1_changeSpares 1 = .ok (.iconst 1, 1) := by decide +kernel
theorem dX1_changeSpares_2 : decode cX1_changeSpares 2 = .ok (.if_icmp .lt 9, 3) := by decide +kernel
theorem dX1_changeSpares_5 : decode cX1_changeSpares 5 = .ok (.iload_n 2, 1) := by decide +kernel
theorem dX1_changeSpares_6 : decode cX1_changeSpares 6 = .ok (.bipush 6, 2) := by decide +kernel
theorem dX1_changeSpares_8 : decode cX1_changeSpares 8 = .ok (.if_icmp .le 6, 3) := by decide +kernel
theorem dX1_changeSpares_11 : decode cX1_changeSpares 11 = .ok (.bipush (-2), 2) := by decide +kernel
theorem dX1_changeSpares_13 : decode cX1_changeSpares 13 = .ok (.ireturn, 1) := by decide +kernel
theorem dX1_changeSpares_14 : decode cX1_changeSpares 14 = .ok (.aload_n 0, 1) := by decide +kernel
theorem dX1_changeSpares_15 : decode cX1_changeSpares 15 = .ok (.iload_n 1, 1) := by decide +kernel
theorem dX1_changeSpares_16 : decode cX1_changeSpares 16 = .ok (.invokevirtual 105, 3) := by decide +kernel
theorem dX1_changeSpares_19 : decode cX1_changeSpares 19 = .ok (.ifCond .gt 12, 3) := by decide +kernel
theorem dX1_changeSpares_22 : decode cX1_changeSpares 22 = .ok (.aload_n 0, 1) := by decide +kernel
theorem dX1_changeSpares_23 : decode cX1_changeSpares 23 = .ok (.getfield 22, 3) := by decide +kernel
theorem dX1_changeSpares_26 : decode cX1_changeSpares 26 = .ok (.iload_n 1, 1) := by decide +kernel
theorem dX1_changeSpares_27 : decode cX1_changeSpares 27 = .ok (.baload, 1) := by decide +kernel
theorem dX1_changeSpares_28 : decode cX1_changeSpares 28 = .ok (.ifCond .eq 6, 3) := by decide +kernel
theorem dX1_changeSpares_31 : decode cX1_changeSpares 31 = .ok (.bipush (-4), 2) := by decide +kernel
theorem dX1_changeSpares_33 : decode cX1_changeSpares 33 = .ok (.ireturn, 1) := by decide +kernel
theorem dX1_changeSpares_34 : decode cX1_changeSpares 34 = .ok (.aload_n 0, 1) := by decide +kernel
theorem dX1_changeSpares_35 : decode cX1_changeSpares 35 = .ok (.getfield 19, 3) := by decide +kernel
theorem dX1_changeSpares_38 : decode cX1_changeSpares 38 = .ok (.iload_n 1, 1) := by decide +kernel
theorem dX1_changeSpares_39 : decode cX1_changeSpares 39 = .ok (.iaload, 1) := by decide +kernel
theorem dX1_changeSpares_40 : decode cX1_changeSpares 40 = .ok (.istore_n 3, 1) := by decide +kernel
theorem dX1_changeSpares_41 : decode cX1_changeSpares 41 = .ok (.iload_n 3, 1) := by decide +kernel
theorem dX1_changeSpares_42 : decode cX1_changeSpares 42 = .ok (.iload_n 2, 1) := by decide +kernel
theorem dX1_changeSpares_43 : decode cX1_changeSpares 43 = .ok (.if_icmp .ne 6, 3) := by decide +kernel
theorem dX1_changeSpares_46 : decode cX1_changeSpares 46 = .ok (.bipush (-5), 2) := by decide +kernel
theorem dX1_changeSpares_48 : decode cX1_changeSpares 48 = .ok (.ireturn, 1) := by decide +kernel
theorem dX1_changeSpares_49 : decode cX1_changeSpares 49 = .ok (.aload_n 0, 1) := by decide +kernel
theorem dX1_changeSpares_50 : decode cX1_changeSpares 50 = .ok (.iload_n 1, 1) := by decide +kernel
theorem dX1_changeSpares_51 : decode cX1_changeSpares 51 = .ok (.iload_n 2, 1) := by decide +kernel
theorem dX1_changeSpares_52 : decode cX1_changeSpares 52 = .ok (.invokevirtual 59, 3) := by decide +kernel
theorem dX1_changeSpares_55 : decode cX1_changeSpares 55 = .ok (.iload_n 3, 1) := by decide +kernel
theorem dX1_changeSpares_56 : decode cX1_changeSpares 56 = .ok (.ireturn, 1) := by decide +kernel
set_option maxRecDepth 20000 in
theorem ggX1_readAt_X1_isAddress : GoodIn wsX1_readAt wsX1_isAddress := goodIn_r _ [8, 9, 10, 11, 12, 13, 14, 15, 16, 99, 100, 101, 102, 103, 104, 105, 106, 107, 108, 109, 110, 111, 112, 113] (by decide +kernel) (by decide +kernel)
set_option maxRecDepth 20000 in
theorem gX1_readAt_X1_isAddress : GoodIn wsX1_readAt (wsV RX1 69 RX1 yX1_isAddress wsX1_isAddress) := goodIn_app (goodIn_of _ (by decide +kernel)) ggX1_readAt_X1_isAddress
set_option maxRecDepth 20000 in
theorem ggX1_readAt_X1_isLost : GoodIn wsX1_readAt wsX1_isLost := goodIn_r _ [20, 1, 99, 100, 101, 102, 103, 104, 105, 106, 107, 108, 109, 110, 111, 112, 113] (by decide +kernel) (by decide +kernel)
set_option maxRecDepth 20000 in
theorem gX1_readAt_X1_isLost : GoodIn wsX1_readAt (wsV RX1 83 RX1 yX1_isLost wsX1_isLost) := goodIn_app (goodIn_of _ (by decide +kernel)) ggX1_readAt_X1_isLost
set_option maxRecDepth 20000 in
theorem ggX1_readAt_X1_goTo : GoodIn wsX1_readAt wsX1_goTo := goodIn_r _ [24, 25, 1, 26, 27, 28, 29, 7, 30, 31, 15, 11, 16, 32, 33, 34, 35, 36, 37, 38, 13, 14, 39, 99, 100, 101, 102, 103, 104, 105, 106, 107, 108, 109, 110, 111, 112, 113] (by decide +kernel) (by decide +kernel)
set_option maxRecDepth 20000 in
theorem gX1_readAt_X1_goTo : GoodIn wsX1_readAt (wsV RX1 108 RX1 yX1_goTo wsX1_goTo) := goodIn_app (goodIn_of _ (by decide +kernel)) ggX1_readAt_X1_goTo
set_option maxRecDepth 20000 in
theorem ggX1_readAt_X1_wearByReading : GoodIn wsX1_readAt wsX1_wearByReading := goodIn_r _ [43, 44, 45, 15, 11, 16, 99, 100, 101, 102, 103, 104, 105, 106, 107, 108, 109, 110, 111, 112, 113] (by decide +kernel) (by decide +kernel)
set_option maxRecDepth 20000 in
theorem gX1_readAt_X1_wearByReading : GoodIn wsX1_readAt (wsV RX1 112 RX1 yX1_wearByReading wsX1_wearByReading) := goodIn_app (goodIn_of _ (by decide +kernel)) ggX1_readAt_X1_wearByReading
set_option maxRecDepth 20000 in
theorem ggX1_readAt_X1_lookAt : GoodIn wsX1_readAt wsX1_lookAt := goodIn_r _ [49, 1, 50, 51, 52, 53, 54, 7, 55, 44, 56, 57, 58, 59, 60, 15, 11, 16, 61, 62, 63, 64, 65, 66, 67, 68, 9, 69, 31, 13, 14, 70, 71, 72, 73, 74, 75, 76, 77, 78, 79, 80, 81, 17, 18, 19, 20, 82, 83, 84, 85, 25, 26, 32, 33, 34, 35, 36, 37, 38, 39, 86, 87, 88, 89, 45, 90, 91, 92, 93, 94, 95, 96, 97, 98, 99, 100, 101, 102, 103, 104, 105, 106, 107, 108, 109, 110, 111, 112, 113] (by decide +kernel) (by decide +kernel)
set_option maxRecDepth 20000 in
theorem gX1_readAt_X1_lookAt : GoodIn wsX1_readAt (wsV RX1 115 RX1 yX1_lookAt wsX1_lookAt) := goodIn_app (goodIn_of _ (by decide +kernel)) ggX1_readAt_X1_lookAt
theorem dX1_readAt_0 : decode cX1_readAt 0 = .ok (.aload_n 0, 1) := by decide +kernel
theorem dX1_readAt_1 : decode cX1_readAt 1 = .ok (.iload_n 1, 1) := by decide +kernel
theorem dX1_readAt_2 : decode cX1_readAt 2 = .ok (.invokevirtual 69, 3) := by decide +kernel
theorem dX1_readAt_5 : decode cX1_readAt 5 = .ok (.ifCond .ne 5, 3) := by decide +kernel
theorem dX1_readAt_8 : decode cX1_readAt 8 = .ok (.iconst (-1), 1) := by decide +kernel
theorem dX1_readAt_9 : decode cX1_readAt 9 = .ok (.ireturn, 1) := by decide +kernel
theorem dX1_readAt_10 : decode cX1_readAt 10 = .ok (.aload_n 0, 1) := by decide +kernel
theorem dX1_readAt_11 : decode cX1_readAt 11 = .ok (.iload_n 1, 1) := by decide +kernel
theorem dX1_readAt_12 : decode cX1_readAt 12 = .ok (.invokevirtual 83, 3) := by decide +kernel
theorem dX1_readAt_15 : decode cX1_readAt 15 = .ok (.ifCond .eq 6, 3) := by decide +kernel
theorem dX1_readAt_18 : decode cX1_readAt 18 = .ok (.bipush (-4), 2) := by decide +kernel
theorem dX1_readAt_20 : decode cX1_readAt 20 = .ok (.ireturn, 1) := by decide +kernel
theorem dX1_readAt_21 : decode cX1_readAt 21 = .ok (.aload_n 0, 1) := by decide +kernel
theorem dX1_readAt_22 : decode cX1_readAt 22 = .ok (.iload_n 1, 1) := by decide +kernel
theorem dX1_readAt_23 : decode cX1_readAt 23 = .ok (.invokevirtual 108, 3) := by decide +kernel
theorem dX1_readAt_26 : decode cX1_readAt 26 = .ok (.aload_n 0, 1) := by decide +kernel
theorem dX1_readAt_27 : decode cX1_readAt 27 = .ok (.aload_n 0, 1) := by decide +kernel
theorem dX1_readAt_28 : decode cX1_readAt 28 = .ok (.getfield 35, 3) := by decide +kernel
theorem dX1_readAt_31 : decode cX1_readAt 31 = .ok (.iload_n 1, 1) := by decide +kernel
theorem dX1_readAt_32 : decode cX1_readAt 32 = .ok (.iaload, 1) := by decide +kernel
theorem dX1_readAt_33 : decode cX1_readAt 33 = .ok (.invokevirtual 112, 3) := by decide +kernel
theorem dX1_readAt_36 : decode cX1_readAt 36 = .ok (.aload_n 0, 1) := by decide +kernel
theorem dX1_readAt_37 : decode cX1_readAt 37 = .ok (.dup, 1) := by decide +kernel
theorem dX1_readAt_38 : decode cX1_readAt 38 = .ok (.getfield 53, 3) := by decide +kernel
theorem dX1_readAt_41 : decode cX1_readAt 41 = .ok (.iconst 1, 1) := by decide +kernel
theorem dX1_readAt_42 : decode cX1_readAt 42 = .ok (.iadd, 1) := by decide +kernel
theorem dX1_readAt_43 : decode cX1_readAt 43 = .ok (.putfield 53, 3) := by decide +kernel
theorem dX1_readAt_46 : decode cX1_readAt 46 = .ok (.aload_n 0, 1) := by decide +kernel
theorem dX1_readAt_47 : decode cX1_readAt 47 = .ok (.iload_n 1, 1) := by decide +kernel
theorem dX1_readAt_48 : decode cX1_readAt 48 = .ok (.invokevirtual 115, 3) := by decide +kernel
theorem dX1_readAt_51 : decode cX1_readAt 51 = .ok (.aload_n 0, 1) := by decide +kernel
theorem dX1_readAt_52 : decode cX1_readAt 52 = .ok (.getfield 29, 3) := by decide +kernel
theorem dX1_readAt_55 : decode cX1_readAt 55 = .ok (.iload_n 1, 1) := by decide +kernel
theorem dX1_readAt_56 : decode cX1_readAt 56 = .ok (.iaload, 1) := by decide +kernel
theorem dX1_readAt_57 : decode cX1_readAt 57 = .ok (.ireturn, 1) := by decide +kernel
set_option maxRecDepth 20000 in
theorem ggX1_writeAt_X1_isAddress : GoodIn wsX1_writeAt wsX1_isAddress := goodIn_r _ [8, 9, 10, 11, 12, 13, 14, 15, 16, 95, 96, 97, 98, 99, 100, 101, 102, 103, 104, 105, 106, 107, 108, 109] (by decide +kernel) (by decide +kernel)
set_option maxRecDepth 20000 in
theorem gX1_writeAt_X1_isAddress : GoodIn wsX1_writeAt (wsV RX1 69 RX1 yX1_isAddress wsX1_isAddress) := goodIn_app (goodIn_of _ (by decide +kernel)) ggX1_writeAt_X1_isAddress
set_option maxRecDepth 20000 in
theorem ggX1_writeAt_X1_isLost : GoodIn wsX1_writeAt wsX1_isLost := goodIn_r _ [20, 1, 95, 96, 97, 98, 99, 100, 101, 102, 103, 104, 105, 106, 107, 108, 109] (by decide +kernel) (by decide +kernel)
set_option maxRecDepth 20000 in
theorem gX1_writeAt_X1_isLost : GoodIn wsX1_writeAt (wsV RX1 83 RX1 yX1_isLost wsX1_isLost) := goodIn_app (goodIn_of _ (by decide +kernel)) ggX1_writeAt_X1_isLost
set_option maxRecDepth 20000 in
theorem ggX1_writeAt_X1_lendableTo : GoodIn wsX1_writeAt wsX1_lendableTo := goodIn_r _ [24, 15, 11, 16, 25, 26, 27, 7, 28, 29, 30, 31, 32, 9, 33, 34, 13, 14, 35, 36, 37, 38, 39, 40, 41, 42, 43, 44, 95, 96, 97, 98, 99, 100, 101, 102, 103, 104, 105, 106, 107, 108, 109] (by decide +kernel) (by decide +kernel)
set_option maxRecDepth 20000 in
theorem gX1_writeAt_X1_lendableTo : GoodIn wsX1_writeAt (wsV RX1 118 RX1 yX1_lendableTo wsX1_lendableTo) := goodIn_app (goodIn_of _ (by decide +kernel)) ggX1_writeAt_X1_lendableTo
set_option maxRecDepth 20000 in
theorem ggX1_writeAt_X1_lend : GoodIn wsX1_writeAt wsX1_lend := goodIn_r _ [48, 1, 33, 49, 50, 51, 7, 52, 17, 18, 19, 20, 95, 96, 97, 98, 99, 100, 101, 102, 103, 104, 105, 106, 107, 108, 109] (by decide +kernel) (by decide +kernel)
set_option maxRecDepth 20000 in
theorem gX1_writeAt_X1_lend : GoodIn wsX1_writeAt (wsV RX1 121 RX1 yX1_lend wsX1_lend) := goodIn_app (goodIn_of _ (by decide +kernel)) ggX1_writeAt_X1_lend
set_option maxRecDepth 20000 in
theorem ggX1_writeAt_X1_goTo : GoodIn wsX1_writeAt wsX1_goTo := goodIn_r _ [56, 57, 1, 58, 59, 60, 61, 7, 62, 34, 15, 11, 16, 63, 64, 65, 66, 67, 68, 69, 13, 14, 70, 95, 96, 97, 98, 99, 100, 101, 102, 103, 104, 105, 106, 107, 108, 109] (by decide +kernel) (by decide +kernel)
set_option maxRecDepth 20000 in
theorem gX1_writeAt_X1_goTo : GoodIn wsX1_writeAt (wsV RX1 108 RX1 yX1_goTo wsX1_goTo) := goodIn_app (goodIn_of _ (by decide +kernel)) ggX1_writeAt_X1_goTo
set_option maxRecDepth 20000 in
theorem ggX1_writeAt_X1_wearByWriting : GoodIn wsX1_writeAt wsX1_wearByWriting := goodIn_r _ [74, 39, 75, 15, 11, 16, 95, 96, 97, 98, 99, 100, 101, 102, 103, 104, 105, 106, 107, 108, 109] (by decide +kernel) (by decide +kernel)
set_option maxRecDepth 20000 in
theorem gX1_writeAt_X1_wearByWriting : GoodIn wsX1_writeAt (wsV RX1 124 RX1 yX1_wearByWriting wsX1_wearByWriting) := goodIn_app (goodIn_of _ (by decide +kernel)) ggX1_writeAt_X1_wearByWriting
set_option maxRecDepth 20000 in
theorem ggX1_writeAt_X1_lookAt : GoodIn wsX1_writeAt wsX1_lookAt := goodIn_r _ [79, 1, 80, 81, 35, 36, 37, 7, 38, 39, 40, 21, 22, 23, 24, 15, 11, 16, 25, 26, 27, 28, 29, 30, 31, 32, 9, 33, 34, 13, 14, 41, 42, 43, 44, 45, 46, 47, 48, 49, 50, 51, 52, 17, 18, 19, 20, 82, 83, 84, 85, 57, 58, 63, 64, 65, 66, 67, 68, 69, 70, 71, 72, 73, 74, 75, 86, 87, 88, 89, 90, 91, 92, 93, 94, 95, 96, 97, 98, 99, 100, 101, 102, 103, 104, 105, 106, 107, 108, 109] (by decide +kernel) (by decide +kernel)
set_option maxRecDepth 20000 in
theorem gX1_writeAt_X1_lookAt : GoodIn wsX1_writeAt (wsV RX1 115 RX1 yX1_lookAt wsX1_lookAt) := goodIn_app (goodIn_of _ (by decide +kernel)) ggX1_writeAt_X1_lookAt
theorem dX1_writeAt_0 : decode cX1_writeAt 0 = .ok (.aload_n 0, 1) := by decide +kernel
theorem dX1_writeAt_1 : decode cX1_writeAt 1 = .ok (.iload_n 1, 1) := by decide +kernel
theorem dX1_writeAt_2 : decode cX1_writeAt 2 = .ok (.invokevirtual 69, 3) := by decide +kernel
theorem dX1_writeAt_5 : decode cX1_writeAt 5 = .ok (.ifCond .ne 5, 3) := by decide +kernel
theorem dX1_writeAt_8 : decode cX1_writeAt 8 = .ok (.iconst (-1), 1) := by decide +kernel
theorem dX1_writeAt_9 : decode cX1_writeAt 9 = .ok (.ireturn, 1) := by decide +kernel
theorem dX1_writeAt_10 : decode cX1_writeAt 10 = .ok (.iload_n 2, 1) := by decide +kernel
theorem dX1_writeAt_11 : decode cX1_writeAt 11 = .ok (.ifCond .lt 10, 3) := by decide +kernel
theorem dX1_writeAt_14 : decode cX1_writeAt 14 = .ok (.iload_n 2, 1) := by decide +kernel
theorem dX1_writeAt_15 : decode cX1_writeAt 15 = .ok (.sipush 999, 3) := by decide +kernel
theorem dX1_writeAt_18 : decode cX1_writeAt 18 = .ok (.if_icmp .le 6, 3) := by decide +kernel
theorem dX1_writeAt_21 : decode cX1_writeAt 21 = .ok (.bipush (-2), 2) := by decide +kernel
theorem dX1_writeAt_23 : decode cX1_writeAt 23 = .ok (.ireturn, 1) := by decide +kernel
theorem dX1_writeAt_24 : decode cX1_writeAt 24 = .ok (.aload_n 0, 1) := by decide +kernel
theorem dX1_writeAt_25 : decode cX1_writeAt 25 = .ok (.iload_n 1, 1) := by decide +kernel
theorem dX1_writeAt_26 : decode cX1_writeAt 26 = .ok (.invokevirtual 83, 3) := by decide +kernel
theorem dX1_writeAt_29 : decode cX1_writeAt 29 = .ok (.ifCond .eq 24, 3) := by decide +kernel
theorem dX1_writeAt_32 : decode cX1_writeAt 32 = .ok (.aload_n 0, 1) := by decide +kernel
theorem dX1_writeAt_33 : decode cX1_writeAt 33 = .ok (.iload_n 1, 1) := by decide +kernel
theorem dX1_writeAt_34 : decode cX1_writeAt 34 = .ok (.invokevirtual 118, 3) := by decide +kernel
theorem dX1_writeAt_37 : decode cX1_writeAt 37 = .ok (.istore_n 3, 1) := by decide +kernel
theorem dX1_writeAt_38 : decode cX1_writeAt 38 = .ok (.iload_n 3, 1) := by decide +kernel
theorem dX1_writeAt_39 : decode cX1_writeAt 39 = .ok (.bipush (-5), 2) := by decide +kernel
theorem dX1_writeAt_41 : decode cX1_writeAt 41 = .ok (.if_icmp .ne 6, 3) := by decide +kernel
theorem dX1_writeAt_44 : decode cX1_writeAt 44 = .ok (.bipush (-4), 2) := by decide +kernel
theorem dX1_writeAt_46 : decode cX1_writeAt 46 = .ok (.ireturn, 1) := by decide +kernel
theorem dX1_writeAt_47 : decode cX1_writeAt 47 = .ok (.aload_n 0, 1) := by decide +kernel
theorem dX1_writeAt_48 : decode cX1_writeAt 48 = .ok (.iload_n 1, 1) := by decide +kernel
theorem dX1_writeAt_49 : decode cX1_writeAt 49 = .ok (.iload_n 3, 1) := by decide +kernel
theorem dX1_writeAt_50 : decode cX1_writeAt 50 = .ok (.invokevirtual 121, 3) := by decide +kernel
theorem dX1_writeAt_53 : decode cX1_writeAt 53 = .ok (.aload_n 0, 1) := by decide +kernel
theorem dX1_writeAt_54 : decode cX1_writeAt 54 = .ok (.iload_n 1, 1) := by decide +kernel
theorem dX1_writeAt_55 : decode cX1_writeAt 55 = .ok (.invokevirtual 108, 3) := by decide +kernel
theorem dX1_writeAt_58 : decode cX1_writeAt 58 = .ok (.aload_n 0, 1) := by decide +kernel
theorem dX1_writeAt_59 : decode cX1_writeAt 59 = .ok (.aload_n 0, 1) := by decide +kernel
theorem dX1_writeAt_60 : decode cX1_writeAt 60 = .ok (.getfield 35, 3) := by decide +kernel
theorem dX1_writeAt_63 : decode cX1_writeAt 63 = .ok (.iload_n 1, 1) := by decide +kernel
theorem dX1_writeAt_64 : decode cX1_writeAt 64 = .ok (.iaload, 1) := by decide +kernel
theorem dX1_writeAt_65 : decode cX1_writeAt 65 = .ok (.invokevirtual 124, 3) := by decide +kernel
theorem dX1_writeAt_68 : decode cX1_writeAt 68 = .ok (.aload_n 0, 1) := by decide +kernel
theorem dX1_writeAt_69 : decode cX1_writeAt 69 = .ok (.getfield 29, 3) := by decide +kernel
theorem dX1_writeAt_72 : decode cX1_writeAt 72 = .ok (.iload_n 1, 1) := by decide +kernel
theorem dX1_writeAt_73 : decode cX1_writeAt 73 = .ok (.iload_n 2, 1) := by decide +kernel
theorem dX1_writeAt_74 : decode cX1_writeAt 74 = .ok (.iastore, 1) := by decide +kernel
theorem dX1_writeAt_75 : decode cX1_writeAt 75 = .ok (.aload_n 0, 1) := by decide +kernel
theorem dX1_writeAt_76 : decode cX1_writeAt 76 = .ok (.dup, 1) := by decide +kernel
theorem dX1_writeAt_77 : decode cX1_writeAt 77 = .ok (.getfield 56, 3) := by decide +kernel
theorem dX1_writeAt_80 : decode cX1_writeAt 80 = .ok (.iconst 1, 1) := by decide +kernel
theorem dX1_writeAt_81 : decode cX1_writeAt 81 = .ok (.iadd, 1) := by decide +kernel
theorem dX1_writeAt_82 : decode cX1_writeAt 82 = .ok (.putfield 56, 3) := by decide +kernel
theorem dX1_writeAt_85 : decode cX1_writeAt 85 = .ok (.aload_n 0, 1) := by decide +kernel
theorem dX1_writeAt_86 : decode cX1_writeAt 86 = .ok (.iload_n 1, 1) := by decide +kernel
theorem dX1_writeAt_87 : decode cX1_writeAt 87 = .ok (.invokevirtual 115, 3) := by decide +kernel
theorem dX1_writeAt_90 : decode cX1_writeAt 90 = .ok (.aload_n 0, 1) := by decide +kernel
theorem dX1_writeAt_91 : decode cX1_writeAt 91 = .ok (.iload_n 1, 1) := by decide +kernel
theorem dX1_writeAt_92 : decode cX1_writeAt 92 = .ok (.invokevirtual 83, 3) := by decide +kernel
theorem dX1_writeAt_95 : decode cX1_writeAt 95 = .ok (.ifCond .eq 8, 3) := by decide +kernel
theorem dX1_writeAt_98 : decode cX1_writeAt 98 = .ok (.bipush 100, 2) := by decide +kernel
theorem dX1_writeAt_100 : decode cX1_writeAt 100 = .ok (.goto 9, 3) := by decide +kernel
theorem dX1_writeAt_103 : decode cX1_writeAt 103 = .ok (.aload_n 0, 1) := by decide +kernel
theorem dX1_writeAt_104 : decode cX1_writeAt 104 = .ok (.getfield 35, 3) := by decide +kernel
theorem dX1_writeAt_107 : decode cX1_writeAt 107 = .ok (.iload_n 1, 1) := by decide +kernel
theorem dX1_writeAt_108 : decode cX1_writeAt 108 = .ok (.iaload, 1) := by decide +kernel
theorem dX1_writeAt_109 : decode cX1_writeAt 109 = .ok (.ireturn, 1) := by decide +kernel
set_option maxRecDepth 20000 in
theorem ggX1_copyRow_X1_readAt : GoodIn wsX1_copyRow wsX1_readAt := goodIn_r _ [5, 6, 7, 8, 9, 10, 11, 4, 12, 13, 14, 15, 16, 17, 18, 19, 20, 21, 22, 23, 24, 25, 26, 27, 28, 29, 30, 31, 32, 33, 34, 35, 36, 37, 38, 39, 40, 41, 42, 43, 44, 45, 46, 47, 48, 49, 50, 51, 52, 53, 54, 55, 56, 57, 58, 59, 60, 61, 62, 63, 64, 65, 66, 67, 68, 69, 70, 71, 72, 73, 74, 75, 76, 77, 78, 79, 80, 81, 82, 83, 84, 85, 86, 87, 88, 89, 90, 91, 92, 93, 94, 95, 96, 97, 98, 99, 100, 101, 102, 108, 109, 110, 111, 112, 113, 114, 115, 116, 117, 118, 119, 120, 121, 122] (by decide +kernel) (by decide +kernel)
set_option maxRecDepth 20000 in
theorem gX1_copyRow_X1_readAt : GoodIn wsX1_copyRow (wsV RX1 127 RX1 yX1_readAt wsX1_readAt) := goodIn_app (goodIn_of _ (by decide +kernel)) ggX1_copyRow_X1_readAt
set_option maxRecDepth 20000 in
theorem ggX1_copyRow_X1_writeAt : GoodIn wsX1_copyRow wsX1_writeAt := goodIn_r _ [106, 6, 8, 107, 9, 10, 11, 4, 12, 13, 14, 15, 16, 17, 18, 19, 20, 21, 22, 23, 24, 61, 62, 63, 64, 65, 66, 67, 68, 69, 70, 71, 72, 73, 35, 56, 57, 58, 59, 48, 60, 74, 75, 76, 77, 78, 79, 80, 81, 82, 83, 84, 85, 25, 26, 27, 28, 29, 30, 31, 32, 33, 34, 36, 37, 38, 39, 40, 41, 42, 43, 90, 91, 92, 93, 49, 50, 51, 52, 53, 54, 55, 86, 87, 88, 89, 94, 95, 96, 97, 98, 99, 100, 101, 102, 108, 109, 110, 111, 112, 113, 114, 115, 116, 117, 118, 119, 120, 121, 122] (by decide +kernel) (by decide +kernel)
set_option maxRecDepth 20000 in
theorem gX1_copyRow_X1_writeAt : GoodIn wsX1_copyRow (wsV RX1 130 RX1 yX1_writeAt wsX1_writeAt) := goodIn_app (goodIn_of _ (by decide +kernel)) ggX1_copyRow_X1_writeAt
theorem dX1_copyRow_0 : decode cX1_copyRow 0 = .ok (.iconst 0, 1) := by decide +kernel
theorem dX1_copyRow_1 : decode cX1_copyRow 1 = .ok (.istore 4, 2) := by decide +kernel
theorem dX1_copyRow_3 : decode cX1_copyRow 3 = .ok (.iload 4, 2) := by decide +kernel
theorem dX1_copyRow_5 : decode cX1_copyRow 5 = .ok (.iload_n 3, 1) := by decide +kernel
theorem dX1_copyRow_6 : decode cX1_copyRow 6 = .ok (.if_icmp .ge 40, 3) := by decide +kernel
theorem dX1_copyRow_9 : decode cX1_copyRow 9 = .ok (.aload_n 0, 1) := by decide +kernel
theorem dX1_copyRow_10 : decode cX1_copyRow 10 = .ok (.iload_n 1, 1) := by decide +kernel
theorem dX1_copyRow_11 : decode cX1_copyRow 11 = .ok (.iload 4, 2) := by decide +kernel
theorem dX1_copyRow_13 : decode cX1_copyRow 13 = .ok (.iadd, 1) := by decide +kernel
theorem dX1_copyRow_14 : decode cX1_copyRow 14 = .ok (.invokevirtual 127, 3) := by decide +kernel
theorem dX1_copyRow_17 : decode cX1_copyRow 17 = .ok (.istore 5, 2) := by decide +kernel
theorem dX1_copyRow_19 : decode cX1_copyRow 19 = .ok (.iload 5, 2) := by decide +kernel
theorem dX1_copyRow_21 : decode cX1_copyRow 21 = .ok (.ifCond .lt 16, 3) := by decide +kernel
theorem dX1_copyRow_24 : decode cX1_copyRow 24 = .ok (.aload_n 0, 1) := by decide +kernel
theorem dX1_copyRow_25 : decode cX1_copyRow 25 = .ok (.iload_n 2, 1) := by decide +kernel
theorem dX1_copyRow_26 : decode cX1_copyRow 26 = .ok (.iload 4, 2) := by decide +kernel
theorem dX1_copyRow_28 : decode cX1_copyRow 28 = .ok (.iadd, 1) := by decide +kernel
theorem dX1_copyRow_29 : decode cX1_copyRow 29 = .ok (.iload 5, 2) := by decide +kernel
theorem dX1_copyRow_31 : decode cX1_copyRow 31 = .ok (.invokevirtual 130, 3) := by decide +kernel
theorem dX1_copyRow_34 : decode cX1_copyRow 34 = .ok (.ifCond .ge 6, 3) := by decide +kernel
theorem dX1_copyRow_37 : decode cX1_copyRow 37 = .ok (.iload 4, 2) := by decide +kernel
theorem dX1_copyRow_39 : decode cX1_copyRow 39 = .ok (.ireturn, 1) := by decide +kernel
theorem dX1_copyRow_40 : decode cX1_copyRow 40 = .ok (.iinc 4 1, 3) := by decide +kernel
theorem dX1_copyRow_43 : decode cX1_copyRow 43 = .ok (.goto (-40), 3) := by decide +kernel
theorem dX1_copyRow_46 : decode cX1_copyRow 46 = .ok (.iload_n 3, 1) := by decide +kernel
theorem dX1_copyRow_47 : decode cX1_copyRow 47 = .ok (.ireturn, 1) := by decide +kernel
set_option maxRecDepth 20000 in
theorem ggX1_testHead_X1_lostOf : GoodIn wsX1_testHead wsX1_lostOf := goodIn_r _ [7, 1, 8, 9, 10, 6, 11, 12, 107, 108, 109, 110, 111, 112, 113, 114, 115, 116, 117, 118, 119, 120, 121] (by decide +kernel) (by decide +kernel)
set_option maxRecDepth 20000 in
theorem gX1_testHead_X1_lostOf : GoodIn wsX1_testHead (wsV RX1 133 RX1 yX1_lostOf wsX1_lostOf) := goodIn_app (goodIn_of _ (by decide +kernel)) ggX1_testHead_X1_lostOf
set_option maxRecDepth 20000 in
theorem ggX1_testHead_X1_readAt : GoodIn wsX1_testHead wsX1_readAt := goodIn_r _ [16, 12, 17, 18, 19, 20, 21, 6, 22, 1, 23, 24, 25, 26, 27, 28, 29, 8, 9, 10, 11, 30, 31, 32, 33, 34, 35, 36, 37, 38, 39, 40, 41, 42, 43, 44, 45, 46, 47, 48, 49, 50, 51, 52, 53, 54, 55, 56, 57, 58, 2, 59, 60, 61, 62, 63, 64, 65, 66, 67, 68, 69, 70, 71, 72, 73, 74, 75, 76, 77, 78, 79, 80, 81, 82, 83, 84, 85, 86, 87, 88, 89, 90, 91, 92, 93, 94, 95, 96, 97, 98, 99, 100, 101, 102, 103, 104, 105, 106, 107, 108, 109, 110, 111, 112, 113, 114, 115, 116, 117, 118, 119, 120, 121] (by decide +kernel) (by decide +kernel)
set_option maxRecDepth 20000 in
theorem gX1_testHead_X1_readAt : GoodIn wsX1_testHead (wsV RX1 127 RX1 yX1_readAt wsX1_readAt) := goodIn_app (goodIn_of _ (by decide +kernel)) ggX1_testHead_X1_readAt
theorem dX1_testHead_0 : decode cX1_testHead 0 = .ok (.aload_n 0, 1) := by decide +kernel
theorem dX1_testHead_1 : decode cX1_testHead 1 = .ok (.iload_n 1, 1) := by decide +kernel
theorem dX1_testHead_2 : decode cX1_testHead 2 = .ok (.invokevirtual 133, 3) := by decide +kernel
theorem dX1_testHead_5 : decode cX1_testHead 5 = .ok (.bipush 16, 2) := by decide +kernel
theorem dX1_testHead_7 : decode cX1_testHead 7 = .ok (.aload_n 0, 1) := by decide +kernel
theorem dX1_testHead_8 : decode cX1_testHead 8 = .ok (.getfield 19, 3) := by decide +kernel
theorem dX1_testHead_11 : decode cX1_testHead 11 = .ok (.iload_n 1, 1) := by decide +kernel
theorem dX1_testHead_12 : decode cX1_testHead 12 = .ok (.iaload, 1) := by decide +kernel
theorem dX1_testHead_13 : decode cX1_testHead 13 = .ok (.isub, 1) := by decide +kernel
theorem dX1_testHead_14 : decode cX1_testHead 14 = .ok (.if_icmp .ne 6, 3) := by decide +kernel
theorem dX1_testHead_17 : decode cX1_testHead 17 = .ok (.bipush (-5), 2) := by decide +kernel
theorem dX1_testHead_19 : decode cX1_testHead 19 = .ok (.ireturn, 1) := by decide +kernel
theorem dX1_testHead_20 : decode cX1_testHead 20 = .ok (.aload_n 0, 1) := by decide +kernel
theorem dX1_testHead_21 : decode cX1_testHead 21 = .ok (.getfield 47, 3) := by decide +kernel
theorem dX1_testHead_24 : decode cX1_testHead 24 = .ok (.istore_n 2, 1) := by decide +kernel
theorem dX1_testHead_25 : decode cX1_testHead 25 = .ok (.iconst 0, 1) := by decide +kernel
theorem dX1_testHead_26 : decode cX1_testHead 26 = .ok (.istore_n 3, 1) := by decide +kernel
theorem dX1_testHead_27 : decode cX1_testHead 27 = .ok (.iload_n 3, 1) := by decide +kernel
theorem dX1_testHead_28 : decode cX1_testHead 28 = .ok (.bipush 16, 2) := by decide +kernel
theorem dX1_testHead_30 : decode cX1_testHead 30 = .ok (.aload_n 0, 1) := by decide +kernel
theorem dX1_testHead_31 : decode cX1_testHead 31 = .ok (.getfield 19, 3) := by decide +kernel
theorem dX1_testHead_34 : decode cX1_testHead 34 = .ok (.iload_n 1, 1) := by decide +kernel
theorem dX1_testHead_35 : decode cX1_testHead 35 = .ok (.iaload, 1) := by decide +kernel
theorem dX1_testHead_36 : decode cX1_testHead 36 = .ok (.isub, 1) := by decide +kernel
theorem dX1_testHead_37 : decode cX1_testHead 37 = .ok (.if_icmp .ge 20, 3) := by decide +kernel
theorem dX1_testHead_40 : decode cX1_testHead 40 = .ok (.aload_n 0, 1) := by decide +kernel
theorem dX1_testHead_41 : decode cX1_testHead 41 = .ok (.iload_n 1, 1) := by decide +kernel
theorem dX1_testHead_42 : decode cX1_testHead 42 = .ok (.bipush 16, 2) := by decide +kernel
theorem dX1_testHead_44 : decode cX1_testHead 44 = .ok (.imul, 1) := by decide +kernel
theorem dX1_testHead_45 : decode cX1_testHead 45 = .ok (.iload_n 3, 1) := by decide +kernel
theorem dX1_testHead_46 : decode cX1_testHead 46 = .ok (.iadd, 1) := by decide +kernel
theorem dX1_testHead_47 : decode cX1_testHead 47 = .ok (.invokevirtual 127, 3) := by decide +kernel
theorem dX1_testHead_50 : decode cX1_testHead 50 = .ok (.pop, 1) := by decide +kernel
theorem dX1_testHead_51 : decode cX1_testHead 51 = .ok (.iinc 3 1, 3) := by decide +kernel
theorem dX1_testHead_54 : decode cX1_testHead 54 = .ok (.goto (-27), 3) := by decide +kernel
theorem dX1_testHead_57 : decode cX1_testHead 57 = .ok (.aload_n 0, 1) := by decide +kernel
theorem dX1_testHead_58 : decode cX1_testHead 58 = .ok (.getfield 47, 3) := by decide +kernel
theorem dX1_testHead_61 : decode cX1_testHead 61 = .ok (.iload_n 2, 1) := by decide +kernel
theorem dX1_testHead_62 : decode cX1_testHead 62 = .ok (.isub, 1) := by decide +kernel
theorem dX1_testHead_63 : decode cX1_testHead 63 = .ok (.ireturn, 1) := by decide +kernel
set_option maxRecDepth 20000 in
theorem ggX1_lookAt_X1_isGood : GoodIn wsX1_lookAt wsX1_isGood := goodIn_r _ [8, 9, 10, 75, 76, 77, 78, 79, 80, 81, 82, 83, 84, 85, 86, 87, 88, 89] (by decide +kernel) (by decide +kernel)
set_option maxRecDepth 20000 in
theorem gX1_lookAt_X1_isGood : GoodIn wsX1_lookAt (wsV RX1 86 RX1 yX1_isGood wsX1_isGood) := goodIn_app (goodIn_of _ (by decide +kernel)) ggX1_lookAt_X1_isGood
set_option maxRecDepth 20000 in
theorem ggX1_lookAt_X1_lendableTo : GoodIn wsX1_lookAt wsX1_lendableTo := goodIn_r _ [14, 15, 16, 17, 18, 19, 20, 7, 21, 22, 23, 24, 25, 26, 27, 28, 29, 30, 4, 5, 6, 8, 9, 10, 31, 32, 33, 34, 75, 76, 77, 78, 79, 80, 81, 82, 83, 84, 85, 86, 87, 88, 89] (by decide +kernel) (by decide +kernel)
set_option maxRecDepth 20000 in
theorem gX1_lookAt_X1_lendableTo : GoodIn wsX1_lookAt (wsV RX1 118 RX1 yX1_lendableTo wsX1_lendableTo) := goodIn_app (goodIn_of _ (by decide +kernel)) ggX1_lookAt_X1_lendableTo
set_option maxRecDepth 20000 in
theorem ggX1_lookAt_X1_lend : GoodIn wsX1_lookAt wsX1_lend := goodIn_r _ [38, 1, 27, 39, 40, 41, 7, 42, 43, 44, 45, 46, 75, 76, 77, 78, 79, 80, 81, 82, 83, 84, 85, 86, 87, 88, 89] (by decide +kernel) (by decide +kernel)
set_option maxRecDepth 20000 in
theorem gX1_lookAt_X1_lend : GoodIn wsX1_lookAt (wsV RX1 121 RX1 yX1_lend wsX1_lend) := goodIn_app (goodIn_of _ (by decide +kernel)) ggX1_lookAt_X1_lend
set_option maxRecDepth 20000 in
theorem ggX1_lookAt_X1_moveTo : GoodIn wsX1_lookAt wsX1_moveTo := goodIn_r _ [50, 51, 52, 53, 16, 54, 55, 56, 57, 58, 59, 29, 30, 60, 15, 17, 75, 76, 77, 78, 79, 80, 81, 82, 83, 84, 85, 86, 87, 88, 89] (by decide +kernel) (by decide +kernel)
set_option maxRecDepth 20000 in
theorem gX1_lookAt_X1_moveTo : GoodIn wsX1_lookAt (wsV RX1 136 RX1 yX1_moveTo wsX1_moveTo) := goodIn_app (goodIn_of _ (by decide +kernel)) ggX1_lookAt_X1_moveTo
set_option maxRecDepth 20000 in
theorem ggX1_lookAt_X1_wearByWriting : GoodIn wsX1_lookAt wsX1_wearByWriting := goodIn_r _ [64, 9, 65, 15, 16, 17, 75, 76, 77, 78, 79, 80, 81, 82, 83, 84, 85, 86, 87, 88, 89] (by decide +kernel) (by decide +kernel)
set_option maxRecDepth 20000 in
theorem gX1_lookAt_X1_wearByWriting : GoodIn wsX1_lookAt (wsV RX1 124 RX1 yX1_wearByWriting wsX1_wearByWriting) := goodIn_app (goodIn_of _ (by decide +kernel)) ggX1_lookAt_X1_wearByWriting
set_option maxRecDepth 20000 in
theorem ggX1_lookAt_X1_isBad : GoodIn wsX1_lookAt wsX1_isBad := goodIn_r _ [69, 9, 10, 75, 76, 77, 78, 79, 80, 81, 82, 83, 84, 85, 86, 87, 88, 89] (by decide +kernel) (by decide +kernel)
set_option maxRecDepth 20000 in
theorem gX1_lookAt_X1_isBad : GoodIn wsX1_lookAt (wsV RX1 89 RX1 yX1_isBad wsX1_isBad) := goodIn_app (goodIn_of _ (by decide +kernel)) ggX1_lookAt_X1_isBad
set_option maxRecDepth 20000 in
theorem ggX1_lookAt_X1_lose : GoodIn wsX1_lookAt wsX1_lose := goodIn_r _ [73, 74, 39, 40, 41, 7, 42, 27, 1, 43, 44, 45, 46, 75, 76, 77, 78, 79, 80, 81, 82, 83, 84, 85, 86, 87, 88, 89] (by decide +kernel) (by decide +kernel)
set_option maxRecDepth 20000 in
theorem gX1_lookAt_X1_lose : GoodIn wsX1_lookAt (wsV RX1 139 RX1 yX1_lose wsX1_lose) := goodIn_app (goodIn_of _ (by decide +kernel)) ggX1_lookAt_X1_lose
theorem dX1_lookAt_0 : decode cX1_lookAt 0 = .ok (.aload_n 0, 1) := by decide +kernel
theorem dX1_lookAt_1 : decode cX1_lookAt 1 = .ok (.getfield 35, 3) := by decide +kernel
theorem dX1_lookAt_4 : decode cX1_lookAt 4 = .ok (.iload_n 1, 1) := by decide +kernel
