theorem dX0_init_0 : decode cX0_init 0 = .ok (.aload_n 0, 1) := by decide +kernel
theorem dX0_init_1 : decode cX0_init 1 = .ok (.invokespecial 3, 3) := by decide +kernel
theorem dX0_init_4 : decode cX0_init 4 = .ok (.aload_n 0, 1) := by decide +kernel
theorem dX0_init_5 : decode cX0_init 5 = .ok (.bipush 60, 2) := by decide +kernel
theorem dX0_init_7 : decode cX0_init 7 = .ok (.newarray .int, 2) := by decide +kernel
theorem dX0_init_9 : decode cX0_init 9 = .ok (.putfield 9, 3) := by decide +kernel
theorem dX0_init_12 : decode cX0_init 12 = .ok (.aload_n 0, 1) := by decide +kernel
theorem dX0_init_13 : decode cX0_init 13 = .ok (.iconst 0, 1) := by decide +kernel
theorem dX0_init_14 : decode cX0_init 14 = .ok (.putfield 15, 3) := by decide +kernel
theorem dX0_init_17 : decode cX0_init 17 = .ok (.aload_n 0, 1) := by decide +kernel
theorem dX0_init_18 : decode cX0_init 18 = .ok (.bipush 20, 2) := by decide +kernel
theorem dX0_init_20 : decode cX0_init 20 = .ok (.newarray .int, 2) := by decide +kernel
theorem dX0_init_22 : decode cX0_init 22 = .ok (.putfield 19, 3) := by decide +kernel
theorem dX0_init_25 : decode cX0_init 25 = .ok (.aload_n 0, 1) := by decide +kernel
theorem dX0_init_26 : decode cX0_init 26 = .ok (.bipush 20, 2) := by decide +kernel
theorem dX0_init_28 : decode cX0_init 28 = .ok (.newarray .int, 2) := by decide +kernel
theorem dX0_init_30 : decode cX0_init 30 = .ok (.putfield 22, 3) := by decide +kernel
theorem dX0_init_33 : decode cX0_init 33 = .ok (.aload_n 0, 1) := by decide +kernel
theorem dX0_init_34 : decode cX0_init 34 = .ok (.iconst 0, 1) := by decide +kernel
theorem dX0_init_35 : decode cX0_init 35 = .ok (.putfield 25, 3) := by decide +kernel
theorem dX0_init_38 : decode cX0_init 38 = .ok (.aload_n 0, 1) := by decide +kernel
theorem dX0_init_39 : decode cX0_init 39 = .ok (.iconst 0, 1) := by decide +kernel
theorem dX0_init_40 : decode cX0_init 40 = .ok (.putfield 28, 3) := by decide +kernel
theorem dX0_init_43 : decode cX0_init 43 = .ok (.return_, 1) := by decide +kernel
theorem dX0_length_0 : decode cX0_length 0 = .ok (.aload_n 0, 1) := by decide +kernel
theorem dX0_length_1 : decode cX0_length 1 = .ok (.getfield 15, 3) := by decide +kernel
theorem dX0_length_4 : decode cX0_length 4 = .ok (.ireturn, 1) := by decide +kernel
theorem dX0_commandCount_0 : decode cX0_commandCount 0 = .ok (.aload_n 0, 1) := by decide +kernel
theorem dX0_commandCount_1 : decode cX0_commandCount 1 = .ok (.getfield 25, 3) := by decide +kernel
theorem dX0_commandCount_4 : decode cX0_commandCount 4 = .ok (.ireturn, 1) := by decide +kernel
theorem dX0_commandSector_0 : decode cX0_commandSector 0 = .ok (.aload_n 0, 1) := by decide +kernel
theorem dX0_commandSector_1 : decode cX0_commandSector 1 = .ok (.getfield 19, 3) := by decide +kernel
theorem dX0_commandSector_4 : decode cX0_commandSector 4 = .ok (.iload_n 1, 1) := by decide +kernel
theorem dX0_commandSector_5 : decode cX0_commandSector 5 = .ok (.iaload, 1) := by decide +kernel
theorem dX0_commandSector_6 : decode cX0_commandSector 6 = .ok (.ireturn, 1) := by decide +kernel
theorem dX0_commandValue_0 : decode cX0_commandValue 0 = .ok (.aload_n 0, 1) := by decide +kernel
theorem dX0_commandValue_1 : decode cX0_commandValue 1 = .ok (.getfield 22, 3) := by decide +kernel
theorem dX0_commandValue_4 : decode cX0_commandValue 4 = .ok (.iload_n 1, 1) := by decide +kernel
theorem dX0_commandValue_5 : decode cX0_commandValue 5 = .ok (.iaload, 1) := by decide +kernel
theorem dX0_commandValue_6 : decode cX0_commandValue 6 = .ok (.ireturn, 1) := by decide +kernel
theorem dX0_parse_0 : decode cX0_parse 0 = .ok (.aload_n 0, 1) := by decide +kernel
theorem dX0_parse_1 : decode cX0_parse 1 = .ok (.iconst 0, 1) := by decide +kernel
theorem dX0_parse_2 : decode cX0_parse 2 = .ok (.putfield 28, 3) := by decide +kernel
theorem dX0_parse_5 : decode cX0_parse 5 = .ok (.aload_n 0, 1) := by decide +kernel
theorem dX0_parse_6 : decode cX0_parse 6 = .ok (.iconst 0, 1) := by decide +kernel
theorem dX0_parse_7 : decode cX0_parse 7 = .ok (.putfield 25, 3) := by decide +kernel
theorem dX0_parse_10 : decode cX0_parse 10 = .ok (.iconst 0, 1) := by decide +kernel
theorem dX0_parse_11 : decode cX0_parse 11 = .ok (.istore_n 1, 1) := by decide +kernel
theorem dX0_parse_12 : decode cX0_parse 12 = .ok (.iload_n 1, 1) := by decide +kernel
theorem dX0_parse_13 : decode cX0_parse 13 = .ok (.bipush 20, 2) := by decide +kernel
theorem dX0_parse_15 : decode cX0_parse 15 = .ok (.if_icmp .ge 46, 3) := by decide +kernel
theorem dX0_parse_18 : decode cX0_parse 18 = .ok (.aload_n 0, 1) := by decide +kernel
theorem dX0_parse_19 : decode cX0_parse 19 = .ok (.invokevirtual 31, 3) := by decide +kernel
theorem dX0_parse_22 : decode cX0_parse 22 = .ok (.ifCond .ne 8, 3) := by decide +kernel
theorem dX0_parse_25 : decode cX0_parse 25 = .ok (.aload_n 0, 1) := by decide +kernel
theorem dX0_parse_26 : decode cX0_parse 26 = .ok (.getfield 28, 3) := by decide +kernel
theorem dX0_parse_29 : decode cX0_parse 29 = .ok (.ireturn, 1) := by decide +kernel
theorem dX0_parse_30 : decode cX0_parse 30 = .ok (.aload_n 0, 1) := by decide +kernel
theorem dX0_parse_31 : decode cX0_parse 31 = .ok (.invokevirtual 35, 3) := by decide +kernel
theorem dX0_parse_34 : decode cX0_parse 34 = .ok (.iconst (-1), 1) := by decide +kernel
theorem dX0_parse_35 : decode cX0_parse 35 = .ok (.if_icmp .ne 6, 3) := by decide +kernel
theorem dX0_parse_38 : decode cX0_parse 38 = .ok (.bipush (-5), 2) := by decide +kernel
theorem dX0_parse_40 : decode cX0_parse 40 = .ok (.ireturn, 1) := by decide +kernel
theorem dX0_parse_41 : decode cX0_parse 41 = .ok (.aload_n 0, 1) := by decide +kernel
theorem dX0_parse_42 : decode cX0_parse 42 = .ok (.bipush 59, 2) := by decide +kernel
theorem dX0_parse_44 : decode cX0_parse 44 = .ok (.invokevirtual 39, 3) := by decide +kernel
theorem dX0_parse_47 : decode cX0_parse 47 = .ok (.ifCond .ne 8, 3) := by decide +kernel
theorem dX0_parse_50 : decode cX0_parse 50 = .ok (.aload_n 0, 1) := by decide +kernel
theorem dX0_parse_51 : decode cX0_parse 51 = .ok (.getfield 28, 3) := by decide +kernel
theorem dX0_parse_54 : decode cX0_parse 54 = .ok (.ireturn, 1) := by decide +kernel
theorem dX0_parse_55 : decode cX0_parse 55 = .ok (.iinc 1 1, 3) := by decide +kernel
theorem dX0_parse_58 : decode cX0_parse 58 = .ok (.goto (-46), 3) := by decide +kernel
theorem dX0_parse_61 : decode cX0_parse 61 = .ok (.aload_n 0, 1) := by decide +kernel
theorem dX0_parse_62 : decode cX0_parse 62 = .ok (.getfield 28, 3) := by decide +kernel
theorem dX0_parse_65 : decode cX0_parse 65 = .ok (.ireturn, 1) := by decide +kernel
theorem dX0_takeCommand_0 : decode cX0_takeCommand 0 = .ok (.aload_n 0, 1) := by decide +kernel
theorem dX0_takeCommand_1 : decode cX0_takeCommand 1 = .ok (.bipush 119, 2) := by decide +kernel
theorem dX0_takeCommand_3 : decode cX0_takeCommand 3 = .ok (.invokevirtual 39, 3) := by decide +kernel
theorem dX0_takeCommand_6 : decode cX0_takeCommand 6 = .ok (.istore_n 1, 1) := by decide +kernel
theorem dX0_takeCommand_7 : decode cX0_takeCommand 7 = .ok (.iload_n 1, 1) := by decide +kernel
theorem dX0_takeCommand_8 : decode cX0_takeCommand 8 = .ok (.ifCond .ne 14, 3) := by decide +kernel
theorem dX0_takeCommand_11 : decode cX0_takeCommand 11 = .ok (.aload_n 0, 1) := by decide +kernel
theorem dX0_takeCommand_12 : decode cX0_takeCommand 12 = .ok (.bipush 114, 2) := by decide +kernel
theorem dX0_takeCommand_14 : decode cX0_takeCommand 14 = .ok (.invokevirtual 39, 3) := by decide +kernel
theorem dX0_takeCommand_17 : decode cX0_takeCommand 17 = .ok (.ifCond .ne 5, 3) := by decide +kernel
theorem dX0_takeCommand_20 : decode cX0_takeCommand 20 = .ok (.iconst 0, 1) := by decide +kernel
theorem dX0_takeCommand_21 : decode cX0_takeCommand 21 = .ok (.ireturn, 1) := by decide +kernel
theorem dX0_takeCommand_22 : decode cX0_takeCommand 22 = .ok (.aload_n 0, 1) := by decide +kernel
theorem dX0_takeCommand_23 : decode cX0_takeCommand 23 = .ok (.bipush 63, 2) := by decide +kernel
theorem dX0_takeCommand_25 : decode cX0_takeCommand 25 = .ok (.invokevirtual 43, 3) := by decide +kernel
theorem dX0_takeCommand_28 : decode cX0_takeCommand 28 = .ok (.istore_n 2, 1) := by decide +kernel
theorem dX0_takeCommand_29 : decode cX0_takeCommand 29 = .ok (.iload_n 2, 1) := by decide +kernel
theorem dX0_takeCommand_30 : decode cX0_takeCommand 30 = .ok (.bipush (-5), 2) := by decide +kernel
theorem dX0_takeCommand_32 : decode cX0_takeCommand 32 = .ok (.if_icmp .ne 5, 3) := by decide +kernel
theorem dX0_takeCommand_35 : decode cX0_takeCommand 35 = .ok (.iconst 0, 1) := by decide +kernel
theorem dX0_takeCommand_36 : decode cX0_takeCommand 36 = .ok (.ireturn, 1) := by decide +kernel
theorem dX0_takeCommand_37 : decode cX0_takeCommand 37 = .ok (.bipush (-5), 2) := by decide +kernel
theorem dX0_takeCommand_39 : decode cX0_takeCommand 39 = .ok (.istore_n 3, 1) := by decide +kernel
theorem dX0_takeCommand_40 : decode cX0_takeCommand 40 = .ok (.iload_n 1, 1) := by decide +kernel
theorem dX0_takeCommand_41 : decode cX0_takeCommand 41 = .ok (.ifCond .eq 30, 3) := by decide +kernel
theorem dX0_takeCommand_44 : decode cX0_takeCommand 44 = .ok (.aload_n 0, 1) := by decide +kernel
theorem dX0_takeCommand_45 : decode cX0_takeCommand 45 = .ok (.bipush 61, 2) := by decide +kernel
theorem dX0_takeCommand_47 : decode cX0_takeCommand 47 = .ok (.invokevirtual 39, 3) := by decide +kernel
theorem dX0_takeCommand_50 : decode cX0_takeCommand 50 = .ok (.ifCond .ne 5, 3) := by decide +kernel
theorem dX0_takeCommand_53 : decode cX0_takeCommand 53 = .ok (.iconst 0, 1) := by decide +kernel
theorem dX0_takeCommand_54 : decode cX0_takeCommand 54 = .ok (.ireturn, 1) := by decide +kernel
theorem dX0_takeCommand_55 : decode cX0_takeCommand 55 = .ok (.aload_n 0, 1) := by decide +kernel
theorem dX0_takeCommand_56 : decode cX0_takeCommand 56 = .ok (.sipush 999, 3) := by decide +kernel
theorem dX0_takeCommand_59 : decode cX0_takeCommand 59 = .ok (.invokevirtual 43, 3) := by decide +kernel
theorem dX0_takeCommand_62 : decode cX0_takeCommand 62 = .ok (.istore_n 3, 1) := by decide +kernel
theorem dX0_takeCommand_63 : decode cX0_takeCommand 63 = .ok (.iload_n 3, 1) := by decide +kernel
theorem dX0_takeCommand_64 : decode cX0_takeCommand 64 = .ok (.bipush (-5), 2) := by decide +kernel
theorem dX0_takeCommand_66 : decode cX0_takeCommand 66 = .ok (.if_icmp .ne 5, 3) := by decide +kernel
theorem dX0_takeCommand_69 : decode cX0_takeCommand 69 = .ok (.iconst 0, 1) := by decide +kernel
theorem dX0_takeCommand_70 : decode cX0_takeCommand 70 = .ok (.ireturn, 1) := by decide +kernel
theorem dX0_takeCommand_71 : decode cX0_takeCommand 71 = .ok (.aload_n 0, 1) := by decide +kernel
theorem dX0_takeCommand_72 : decode cX0_takeCommand 72 = .ok (.iload_n 2, 1) := by decide +kernel
theorem dX0_takeCommand_73 : decode cX0_takeCommand 73 = .ok (.iload_n 3, 1) := by decide +kernel
theorem dX0_takeCommand_74 : decode cX0_takeCommand 74 = .ok (.invokevirtual 47, 3) := by decide +kernel
theorem dX0_takeCommand_77 : decode cX0_takeCommand 77 = .ok (.iconst 1, 1) := by decide +kernel
theorem dX0_takeCommand_78 : decode cX0_takeCommand 78 = .ok (.ireturn, 1) := by decide +kernel
theorem dX0_addCommand_0 : decode cX0_addCommand 0 = .ok (.aload_n 0, 1) := by decide +kernel
theorem dX0_addCommand_1 : decode cX0_addCommand 1 = .ok (.getfield 25, 3) := by decide +kernel
theorem dX0_addCommand_4 : decode cX0_addCommand 4 = .ok (.bipush 20, 2) := by decide +kernel
theorem dX0_addCommand_6 : decode cX0_addCommand 6 = .ok (.if_icmp .ge 33, 3) := by decide +kernel
theorem dX0_addCommand_9 : decode cX0_addCommand 9 = .ok (.aload_n 0, 1) := by decide +kernel
theorem dX0_addCommand_10 : decode cX0_addCommand 10 = .ok (.getfield 19, 3) := by decide +kernel
theorem dX0_addCommand_13 : decode cX0_addCommand 13 = .ok (.aload_n 0, 1) := by decide +kernel
theorem dX0_addCommand_14 : decode cX0_addCommand 14 = .ok (.getfield 25, 3) := by decide +kernel
theorem dX0_addCommand_17 : decode cX0_addCommand 17 = .ok (.iload_n 1, 1) := by decide +kernel
theorem dX0_addCommand_18 : decode cX0_addCommand 18 = .ok (.iastore, 1) := by decide +kernel
theorem dX0_addCommand_19 : decode cX0_addCommand 19 = .ok (.aload_n 0, 1) := by decide +kernel
theorem dX0_addCommand_20 : decode cX0_addCommand 20 = .ok (.getfield 22, 3) := by decide +kernel
theorem dX0_addCommand_23 : decode cX0_addCommand 23 = .ok (.aload_n 0, 1) := by decide +kernel
theorem dX0_addCommand_24 : decode cX0_addCommand 24 = .ok (.getfield 25, 3) := by decide +kernel
theorem dX0_addCommand_27 : decode cX0_addCommand 27 = .ok (.iload_n 2, 1) := by decide +kernel
theorem dX0_addCommand_28 : decode cX0_addCommand 28 = .ok (.iastore, 1) := by decide +kernel
theorem dX0_addCommand_29 : decode cX0_addCommand 29 = .ok (.aload_n 0, 1) := by decide +kernel
theorem dX0_addCommand_30 : decode cX0_addCommand 30 = .ok (.dup, 1) := by decide +kernel
theorem dX0_addCommand_31 : decode cX0_addCommand 31 = .ok (.getfield 25, 3) := by decide +kernel
theorem dX0_addCommand_34 : decode cX0_addCommand 34 = .ok (.iconst 1, 1) := by decide +kernel
theorem dX0_addCommand_35 : decode cX0_addCommand 35 = .ok (.iadd, 1) := by decide +kernel
theorem dX0_addCommand_36 : decode cX0_addCommand 36 = .ok (.putfield 25, 3) := by decide +kernel
theorem dX0_addCommand_39 : decode cX0_addCommand 39 = .ok (.return_, 1) := by decide +kernel
theorem dX0_takeNumber_0 : decode cX0_takeNumber 0 = .ok (.aload_n 0, 1) := by decide +kernel
theorem dX0_takeNumber_1 : decode cX0_takeNumber 1 = .ok (.aload_n 0, 1) := by decide +kernel
theorem dX0_takeNumber_2 : decode cX0_takeNumber 2 = .ok (.getfield 28, 3) := by decide +kernel
theorem dX0_takeNumber_5 : decode cX0_takeNumber 5 = .ok (.invokevirtual 51, 3) := by decide +kernel
theorem dX0_takeNumber_8 : decode cX0_takeNumber 8 = .ok (.istore_n 2, 1) := by decide +kernel
theorem dX0_takeNumber_9 : decode cX0_takeNumber 9 = .ok (.iload_n 2, 1) := by decide +kernel
theorem dX0_takeNumber_10 : decode cX0_takeNumber 10 = .ok (.bipush (-5), 2) := by decide +kernel
theorem dX0_takeNumber_12 : decode cX0_takeNumber 12 = .ok (.if_icmp .ne 6, 3) := by decide +kernel
theorem dX0_takeNumber_15 : decode cX0_takeNumber 15 = .ok (.bipush (-5), 2) := by decide +kernel
theorem dX0_takeNumber_17 : decode cX0_takeNumber 17 = .ok (.ireturn, 1) := by decide +kernel
theorem dX0_takeNumber_18 : decode cX0_takeNumber 18 = .ok (.aload_n 0, 1) := by decide +kernel
theorem dX0_takeNumber_19 : decode cX0_takeNumber 19 = .ok (.dup, 1) := by decide +kernel
theorem dX0_takeNumber_20 : decode cX0_takeNumber 20 = .ok (.getfield 28, 3) := by decide +kernel
theorem dX0_takeNumber_23 : decode cX0_takeNumber 23 = .ok (.iconst 1, 1) := by decide +kernel
theorem dX0_takeNumber_24 : decode cX0_takeNumber 24 = .ok (.iadd, 1) := by decide +kernel
theorem dX0_takeNumber_25 : decode cX0_takeNumber 25 = .ok (.putfield 28, 3) := by decide +kernel
theorem dX0_takeNumber_28 : decode cX0_takeNumber 28 = .ok (.aload_n 0, 1) := by decide +kernel
theorem dX0_takeNumber_29 : decode cX0_takeNumber 29 = .ok (.getfield 28, 3) := by decide +kernel
theorem dX0_takeNumber_32 : decode cX0_takeNumber 32 = .ok (.aload_n 0, 1) := by decide +kernel
theorem dX0_takeNumber_33 : decode cX0_takeNumber 33 = .ok (.getfield 15, 3) := by decide +kernel
theorem dX0_takeNumber_36 : decode cX0_takeNumber 36 = .ok (.if_icmp .ge 54, 3) := by decide +kernel
theorem dX0_takeNumber_39 : decode cX0_takeNumber 39 = .ok (.iload_n 2, 1) := by decide +kernel
theorem dX0_takeNumber_40 : decode cX0_takeNumber 40 = .ok (.ifCond .le 50, 3) := by decide +kernel
theorem dX0_takeNumber_43 : decode cX0_takeNumber 43 = .ok (.aload_n 0, 1) := by decide +kernel
theorem dX0_takeNumber_44 : decode cX0_takeNumber 44 = .ok (.aload_n 0, 1) := by decide +kernel
theorem dX0_takeNumber_45 : decode cX0_takeNumber 45 = .ok (.getfield 28, 3) := by decide +kernel
theorem dX0_takeNumber_48 : decode cX0_takeNumber 48 = .ok (.invokevirtual 51, 3) := by decide +kernel
theorem dX0_takeNumber_51 : decode cX0_takeNumber 51 = .ok (.istore_n 3, 1) := by decide +kernel
theorem dX0_takeNumber_52 : decode cX0_takeNumber 52 = .ok (.iload_n 3, 1) := by decide +kernel
theorem dX0_takeNumber_53 : decode cX0_takeNumber 53 = .ok (.bipush (-5), 2) := by decide +kernel
theorem dX0_takeNumber_55 : decode cX0_takeNumber 55 = .ok (.if_icmp .eq 13, 3) := by decide +kernel
theorem dX0_takeNumber_58 : decode cX0_takeNumber 58 = .ok (.bipush 10, 2) := by decide +kernel
theorem dX0_takeNumber_60 : decode cX0_takeNumber 60 = .ok (.iload_n 2, 1) := by decide +kernel
theorem dX0_takeNumber_61 : decode cX0_takeNumber 61 = .ok (.imul, 1) := by decide +kernel
theorem dX0_takeNumber_62 : decode cX0_takeNumber 62 = .ok (.iload_n 3, 1) := by decide +kernel
theorem dX0_takeNumber_63 : decode cX0_takeNumber 63 = .ok (.iadd, 1) := by decide +kernel
theorem dX0_takeNumber_64 : decode cX0_takeNumber 64 = .ok (.iload_n 1, 1) := by decide +kernel
theorem dX0_takeNumber_65 : decode cX0_takeNumber 65 = .ok (.if_icmp .le 5, 3) := by decide +kernel
theorem dX0_takeNumber_68 : decode cX0_takeNumber 68 = .ok (.iload_n 2, 1) := by decide +kernel
theorem dX0_takeNumber_69 : decode cX0_takeNumber 69 = .ok (.ireturn, 1) := by decide +kernel
theorem dX0_takeNumber_70 : decode cX0_takeNumber 70 = .ok (.bipush 10, 2) := by decide +kernel
theorem dX0_takeNumber_72 : decode cX0_takeNumber 72 = .ok (.iload_n 2, 1) := by decide +kernel
theorem dX0_takeNumber_73 : decode cX0_takeNumber 73 = .ok (.imul, 1) := by decide +kernel
theorem dX0_takeNumber_74 : decode cX0_takeNumber 74 = .ok (.iload_n 3, 1) := by decide +kernel
theorem dX0_takeNumber_75 : decode cX0_takeNumber 75 = .ok (.iadd, 1) := by decide +kernel
theorem dX0_takeNumber_76 : decode cX0_takeNumber 76 = .ok (.istore_n 2, 1) := by decide +kernel
theorem dX0_takeNumber_77 : decode cX0_takeNumber 77 = .ok (.aload_n 0, 1) := by decide +kernel
theorem dX0_takeNumber_78 : decode cX0_takeNumber 78 = .ok (.dup, 1) := by decide +kernel
theorem dX0_takeNumber_79 : decode cX0_takeNumber 79 = .ok (.getfield 28, 3) := by decide +kernel
theorem dX0_takeNumber_82 : decode cX0_takeNumber 82 = .ok (.iconst 1, 1) := by decide +kernel
theorem dX0_takeNumber_83 : decode cX0_takeNumber 83 = .ok (.iadd, 1) := by decide +kernel
theorem dX0_takeNumber_84 : decode cX0_takeNumber 84 = .ok (.putfield 28, 3) := by decide +kernel
theorem dX0_takeNumber_87 : decode cX0_takeNumber 87 = .ok (.goto (-59), 3) := by decide +kernel
theorem dX0_takeNumber_90 : decode cX0_takeNumber 90 = .ok (.iload_n 2, 1) := by decide +kernel
theorem dX0_takeNumber_91 : decode cX0_takeNumber 91 = .ok (.ireturn, 1) := by decide +kernel
theorem dX0_digitAt_0 : decode cX0_digitAt 0 = .ok (.iload_n 1, 1) := by decide +kernel
theorem dX0_digitAt_1 : decode cX0_digitAt 1 = .ok (.aload_n 0, 1) := by decide +kernel
theorem dX0_digitAt_2 : decode cX0_digitAt 2 = .ok (.getfield 15, 3) := by decide +kernel
theorem dX0_digitAt_5 : decode cX0_digitAt 5 = .ok (.if_icmp .ge 25, 3) := by decide +kernel
theorem dX0_digitAt_8 : decode cX0_digitAt 8 = .ok (.aload_n 0, 1) := by decide +kernel
theorem dX0_digitAt_9 : decode cX0_digitAt 9 = .ok (.getfield 9, 3) := by decide +kernel
theorem dX0_digitAt_12 : decode cX0_digitAt 12 = .ok (.iload_n 1, 1) := by decide +kernel
theorem dX0_digitAt_13 : decode cX0_digitAt 13 = .ok (.iaload, 1) := by decide +kernel
theorem dX0_digitAt_14 : decode cX0_digitAt 14 = .ok (.bipush 48, 2) := by decide +kernel
theorem dX0_digitAt_16 : decode cX0_digitAt 16 = .ok (.if_icmp .lt 14, 3) := by decide +kernel
theorem dX0_digitAt_19 : decode cX0_digitAt 19 = .ok (.aload_n 0, 1) := by decide +kernel
theorem dX0_digitAt_20 : decode cX0_digitAt 20 = .ok (.getfield 9, 3) := by decide +kernel
theorem dX0_digitAt_23 : decode cX0_digitAt 23 = .ok (.iload_n 1, 1) := by decide +kernel
theorem dX0_digitAt_24 : decode cX0_digitAt 24 = .ok (.iaload, 1) := by decide +kernel
theorem dX0_digitAt_25 : decode cX0_digitAt 25 = .ok (.bipush 57, 2) := by decide +kernel
theorem dX0_digitAt_27 : decode cX0_digitAt 27 = .ok (.if_icmp .le 6, 3) := by decide +kernel
theorem dX0_digitAt_30 : decode cX0_digitAt 30 = .ok (.bipush (-5), 2) := by decide +kernel
theorem dX0_digitAt_32 : decode cX0_digitAt 32 = .ok (.ireturn, 1) := by decide +kernel
theorem dX0_digitAt_33 : decode cX0_digitAt 33 = .ok (.aload_n 0, 1) := by decide +kernel
theorem dX0_digitAt_34 : decode cX0_digitAt 34 = .ok (.getfield 9, 3) := by decide +kernel
theorem dX0_digitAt_37 : decode cX0_digitAt 37 = .ok (.iload_n 1, 1) := by decide +kernel
theorem dX0_digitAt_38 : decode cX0_digitAt 38 = .ok (.iaload, 1) := by decide +kernel
theorem dX0_digitAt_39 : decode cX0_digitAt 39 = .ok (.bipush 48, 2) := by decide +kernel
theorem dX0_digitAt_41 : decode cX0_digitAt 41 = .ok (.isub, 1) := by decide +kernel
theorem dX0_digitAt_42 : decode cX0_digitAt 42 = .ok (.ireturn, 1) := by decide +kernel
theorem dX0_peek_0 : decode cX0_peek 0 = .ok (.aload_n 0, 1) := by decide +kernel
theorem dX0_peek_1 : decode cX0_peek 1 = .ok (.getfield 28, 3) := by decide +kernel
theorem dX0_peek_4 : decode cX0_peek 4 = .ok (.aload_n 0, 1) := by decide +kernel
theorem dX0_peek_5 : decode cX0_peek 5 = .ok (.getfield 15, 3) := by decide +kernel
theorem dX0_peek_8 : decode cX0_peek 8 = .ok (.if_icmp .ge 15, 3) := by decide +kernel
theorem dX0_peek_11 : decode cX0_peek 11 = .ok (.aload_n 0, 1) := by decide +kernel
theorem dX0_peek_12 : decode cX0_peek 12 = .ok (.getfield 9, 3) := by decide +kernel
theorem dX0_peek_15 : decode cX0_peek 15 = .ok (.aload_n 0, 1) := by decide +kernel
theorem dX0_peek_16 : decode cX0_peek 16 = .ok (.getfield 28, 3) := by decide +kernel
theorem dX0_peek_19 : decode cX0_peek 19 = .ok (.iaload, 1) := by decide +kernel
theorem dX0_peek_20 : decode cX0_peek 20 = .ok (.goto 4, 3) := by decide +kernel
theorem dX0_peek_23 : decode cX0_peek 23 = .ok (.iconst (-1), 1) := by decide +kernel
theorem dX0_peek_24 : decode cX0_peek 24 = .ok (.ireturn, 1) := by decide +kernel
theorem dX0_take_0 : decode cX0_take 0 = .ok (.aload_n 0, 1) := by decide +kernel
theorem dX0_take_1 : decode cX0_take 1 = .ok (.invokevirtual 35, 3) := by decide +kernel
theorem dX0_take_4 : decode cX0_take 4 = .ok (.iload_n 1, 1) := by decide +kernel
theorem dX0_take_5 : decode cX0_take 5 = .ok (.if_icmp .eq 5, 3) := by decide +kernel
theorem dX0_take_8 : decode cX0_take 8 = .ok (.iconst 0, 1) := by decide +kernel
theorem dX0_take_9 : decode cX0_take 9 = .ok (.ireturn, 1) := by decide +kernel
theorem dX0_take_10 : decode cX0_take 10 = .ok (.aload_n 0, 1) := by decide +kernel
theorem dX0_take_11 : decode cX0_take 11 = .ok (.dup, 1) := by decide +kernel
theorem dX0_take_12 : decode cX0_take 12 = .ok (.getfield 28, 3) := by decide +kernel
theorem dX0_take_15 : decode cX0_take 15 = .ok (.iconst 1, 1) := by decide +kernel
theorem dX0_take_16 : decode cX0_take 16 = .ok (.iadd, 1) := by decide +kernel
theorem dX0_take_17 : decode cX0_take 17 = .ok (.putfield 28, 3) := by decide +kernel
theorem dX0_take_20 : decode cX0_take 20 = .ok (.iconst 1, 1) := by decide +kernel
theorem dX0_take_21 : decode cX0_take 21 = .ok (.ireturn, 1) := by decide +kernel
theorem dX1_init_0 : decode cX1_init 0 = .ok (.aload_n 0, 1) := by decide +kernel
theorem dX1_init_1 : decode cX1_init 1 = .ok (.invokespecial 3, 3) := by decide +kernel
theorem dX1_init_4 : decode cX1_init 4 = .ok (.aload_n 0, 1) := by decide +kernel
theorem dX1_init_5 : decode cX1_init 5 = .ok (.bipush 30, 2) := by decide +kernel
theorem dX1_init_7 : decode cX1_init 7 = .ok (.putfield 9, 3) := by decide +kernel
theorem dX1_init_10 : decode cX1_init 10 = .ok (.aload_n 0, 1) := by decide +kernel
theorem dX1_init_11 : decode cX1_init 11 = .ok (.iconst 4, 1) := by decide +kernel
theorem dX1_init_12 : decode cX1_init 12 = .ok (.newarray .int, 2) := by decide +kernel
theorem dX1_init_14 : decode cX1_init 14 = .ok (.putfield 15, 3) := by decide +kernel
theorem dX1_init_17 : decode cX1_init 17 = .ok (.aload_n 0, 1) := by decide +kernel
theorem dX1_init_18 : decode cX1_init 18 = .ok (.iconst 4, 1) := by decide +kernel
theorem dX1_init_19 : decode cX1_init 19 = .ok (.newarray .int, 2) := by decide +kernel
theorem dX1_init_21 : decode cX1_init 21 = .ok (.putfield 19, 3) := by decide +kernel
theorem dX1_init_24 : decode cX1_init 24 = .ok (.aload_n 0, 1) := by decide +kernel
theorem dX1_init_25 : decode cX1_init 25 = .ok (.iconst 4, 1) := by decide +kernel
theorem dX1_init_26 : decode cX1_init 26 = .ok (.newarray .boolean, 2) := by decide +kernel
theorem dX1_init_28 : decode cX1_init 28 = .ok (.putfield 22, 3) := by decide +kernel
theorem dX1_init_31 : decode cX1_init 31 = .ok (.aload_n 0, 1) := by decide +kernel
theorem dX1_init_32 : decode cX1_init 32 = .ok (.bipush 64, 2) := by decide +kernel
theorem dX1_init_34 : decode cX1_init 34 = .ok (.newarray .int, 2) := by decide +kernel
theorem dX1_init_36 : decode cX1_init 36 = .ok (.putfield 26, 3) := by decide +kernel
theorem dX1_init_39 : decode cX1_init 39 = .ok (.aload_n 0, 1) := by decide +kernel
theorem dX1_init_40 : decode cX1_init 40 = .ok (.bipush 64, 2) := by decide +kernel
theorem dX1_init_42 : decode cX1_init 42 = .ok (.newarray .int, 2) := by decide +kernel
theorem dX1_init_44 : decode cX1_init 44 = .ok (.putfield 29, 3) := by decide +kernel
theorem dX1_init_47 : decode cX1_init 47 = .ok (.aload_n 0, 1) := by decide +kernel
theorem dX1_init_48 : decode cX1_init 48 = .ok (.bipush 64, 2) := by decide +kernel
theorem dX1_init_50 : decode cX1_init 50 = .ok (.newarray .int, 2) := by decide +kernel
theorem dX1_init_52 : decode cX1_init 52 = .ok (.putfield 32, 3) := by decide +kernel
theorem dX1_init_55 : decode cX1_init 55 = .ok (.aload_n 0, 1) := by decide +kernel
theorem dX1_init_56 : decode cX1_init 56 = .ok (.bipush 64, 2) := by decide +kernel
theorem dX1_init_58 : decode cX1_init 58 = .ok (.newarray .int, 2) := by decide +kernel
theorem dX1_init_60 : decode cX1_init 60 = .ok (.putfield 35, 3) := by decide +kernel
theorem dX1_init_63 : decode cX1_init 63 = .ok (.aload_n 0, 1) := by decide +kernel
theorem dX1_init_64 : decode cX1_init 64 = .ok (.bipush 64, 2) := by decide +kernel
theorem dX1_init_66 : decode cX1_init 66 = .ok (.newarray .int, 2) := by decide +kernel
theorem dX1_init_68 : decode cX1_init 68 = .ok (.putfield 38, 3) := by decide +kernel
theorem dX1_init_71 : decode cX1_init 71 = .ok (.aload_n 0, 1) := by decide +kernel
theorem dX1_init_72 : decode cX1_init 72 = .ok (.iconst 0, 1) := by decide +kernel
theorem dX1_init_73 : decode cX1_init 73 = .ok (.putfield 41, 3) := by decide +kernel
theorem dX1_init_76 : decode cX1_init 76 = .ok (.aload_n 0, 1) := by decide +kernel
theorem dX1_init_77 : decode cX1_init 77 = .ok (.iconst 0, 1) := by decide +kernel
theorem dX1_init_78 : decode cX1_init 78 = .ok (.putfield 44, 3) := by decide +kernel
theorem dX1_init_81 : decode cX1_init 81 = .ok (.aload_n 0, 1) := by decide +kernel
theorem dX1_init_82 : decode cX1_init 82 = .ok (.iconst 0, 1) := by decide +kernel
theorem dX1_init_83 : decode cX1_init 83 = .ok (.putfield 47, 3) := by decide +kernel
theorem dX1_init_86 : decode cX1_init 86 = .ok (.aload_n 0, 1) := by decide +kernel
theorem dX1_init_87 : decode cX1_init 87 = .ok (.iconst 0, 1) := by decide +kernel
theorem dX1_init_88 : decode cX1_init 88 = .ok (.putfield 50, 3) := by decide +kernel
theorem dX1_init_91 : decode cX1_init 91 = .ok (.aload_n 0, 1) := by decide +kernel
theorem dX1_init_92 : decode cX1_init 92 = .ok (.iconst 0, 1) := by decide +kernel
theorem dX1_init_93 : decode cX1_init 93 = .ok (.putfield 53, 3) := by decide +kernel
theorem dX1_init_96 : decode cX1_init 96 = .ok (.aload_n 0, 1) := by decide +kernel
theorem dX1_init_97 : decode cX1_init 97 = .ok (.iconst 0, 1) := by decide +kernel
theorem dX1_init_98 : decode cX1_init 98 = .ok (.putfield 56, 3) := by decide +kernel
theorem dX1_init_101 : decode cX1_init 101 = .ok (.iconst 0, 1) := by decide +kernel
theorem dX1_init_102 : decode cX1_init 102 = .ok (.istore_n 1, 1) := by decide +kernel
theorem dX1_init_103 : decode cX1_init 103 = .ok (.iload_n 1, 1) := by decide +kernel
theorem dX1_init_104 : decode cX1_init 104 = .ok (.iconst 4, 1) := by decide +kernel
theorem dX1_init_105 : decode cX1_init 105 = .ok (.if_icmp .ge 24, 3) := by decide +kernel
theorem dX1_init_108 : decode cX1_init 108 = .ok (.aload_n 0, 1) := by decide +kernel
theorem dX1_init_109 : decode cX1_init 109 = .ok (.getfield 15, 3) := by decide +kernel
theorem dX1_init_112 : decode cX1_init 112 = .ok (.iload_n 1, 1) := by decide +kernel
theorem dX1_init_113 : decode cX1_init 113 = .ok (.iload_n 1, 1) := by decide +kernel
theorem dX1_init_114 : decode cX1_init 114 = .ok (.iconst 1, 1) := by decide +kernel
theorem dX1_init_115 : decode cX1_init 115 = .ok (.iadd, 1) := by decide +kernel
theorem dX1_init_116 : decode cX1_init 116 = .ok (.iastore, 1) := by decide +kernel
theorem dX1_init_117 : decode cX1_init 117 = .ok (.aload_n 0, 1) := by decide +kernel
theorem dX1_init_118 : decode cX1_init 118 = .ok (.iload_n 1, 1) := by decide +kernel
theorem dX1_init_119 : decode cX1_init 119 = .ok (.iconst 4, 1) := by decide +kernel
theorem dX1_init_120 : decode cX1_init 120 = .ok (.invokevirtual 59, 3) := by decide +kernel
theorem dX1_init_123 : decode cX1_init 123 = .ok (.iinc 1 1, 3) := by decide +kernel
theorem dX1_init_126 : decode cX1_init 126 = .ok (.goto (-23), 3) := by decide +kernel
theorem dX1_init_129 : decode cX1_init 129 = .ok (.return_, 1) := by decide +kernel
theorem dX1_takeOver_0 : decode cX1_takeOver 0 = .ok (.aload_n 0, 1) := by decide +kernel
theorem dX1_takeOver_1 : decode cX1_takeOver 1 = .ok (.aload_n 1, 1) := by decide +kernel
theorem dX1_takeOver_2 : decode cX1_takeOver 2 = .ok (.getfield 9, 3) := by decide +kernel
theorem dX1_takeOver_5 : decode cX1_takeOver 5 = .ok (.putfield 9, 3) := by decide +kernel
theorem dX1_takeOver_8 : decode cX1_takeOver 8 = .ok (.aload_n 1, 1) := by decide +kernel
theorem dX1_takeOver_9 : decode cX1_takeOver 9 = .ok (.getfield 15, 3) := by decide +kernel
theorem dX1_takeOver_12 : decode cX1_takeOver 12 = .ok (.iconst 0, 1) := by decide +kernel
theorem dX1_takeOver_13 : decode cX1_takeOver 13 = .ok (.aload_n 0, 1) := by decide +kernel
theorem dX1_takeOver_14 : decode cX1_takeOver 14 = .ok (.getfield 15, 3) := by decide +kernel
theorem dX1_takeOver_17 : decode cX1_takeOver 17 = .ok (.iconst 0, 1) := by decide +kernel
theorem dX1_takeOver_18 : decode cX1_takeOver 18 = .ok (.iconst 4, 1) := by decide +kernel
theorem dX1_takeOver_19 : decode cX1_takeOver 19 = .ok (.invokestatic 63, 3) := by decide +kernel
theorem dX1_takeOver_22 : decode cX1_takeOver 22 = .ok (.aload_n 1, 1) := by decide +kernel
theorem dX1_takeOver_23 : decode cX1_takeOver 23 = .ok (.getfield 19, 3) := by decide +kernel
theorem dX1_takeOver_26 : decode cX1_takeOver 26 = .ok (.iconst 0, 1) := by decide +kernel
theorem dX1_takeOver_27 : decode cX1_takeOver 27 = .ok (.aload_n 0, 1) := by decide +kernel
theorem dX1_takeOver_28 : decode cX1_takeOver 28 = .ok (.getfield 19, 3) := by decide +kernel
theorem dX1_takeOver_31 : decode cX1_takeOver 31 = .ok (.iconst 0, 1) := by decide +kernel
theorem dX1_takeOver_32 : decode cX1_takeOver 32 = .ok (.iconst 4, 1) := by decide +kernel
theorem dX1_takeOver_33 : decode cX1_takeOver 33 = .ok (.invokestatic 63, 3) := by decide +kernel
theorem dX1_takeOver_36 : decode cX1_takeOver 36 = .ok (.aload_n 1, 1) := by decide +kernel
theorem dX1_takeOver_37 : decode cX1_takeOver 37 = .ok (.getfield 22, 3) := by decide +kernel
theorem dX1_takeOver_40 : decode cX1_takeOver 40 = .ok (.iconst 0, 1) := by decide +kernel
theorem dX1_takeOver_41 : decode cX1_takeOver 41 = .ok (.aload_n 0, 1) := by decide +kernel
theorem dX1_takeOver_42 : decode cX1_takeOver 42 = .ok (.getfield 22, 3) := by decide +kernel
theorem dX1_takeOver_45 : decode cX1_takeOver 45 = .ok (.iconst 0, 1) := by decide +kernel
theorem dX1_takeOver_46 : decode cX1_takeOver 46 = .ok (.iconst 4, 1) := by decide +kernel
theorem dX1_takeOver_47 : decode cX1_takeOver 47 = .ok (.invokestatic 63, 3) := by decide +kernel
theorem dX1_takeOver_50 : decode cX1_takeOver 50 = .ok (.aload_n 1, 1) := by decide +kernel
theorem dX1_takeOver_51 : decode cX1_takeOver 51 = .ok (.getfield 26, 3) := by decide +kernel
theorem dX1_takeOver_54 : decode cX1_takeOver 54 = .ok (.iconst 0, 1) := by decide +kernel
theorem dX1_takeOver_55 : decode cX1_takeOver 55 = .ok (.aload_n 0, 1) := by decide +kernel
theorem dX1_takeOver_56 : decode cX1_takeOver 56 = .ok (.getfield 26, 3) := by decide +kernel
theorem dX1_takeOver_59 : decode cX1_takeOver 59 = .ok (.iconst 0, 1) := by decide +kernel
theorem dX1_takeOver_60 : decode cX1_takeOver 60 = .ok (.bipush 64, 2) := by decide +kernel
theorem dX1_takeOver_62 : decode cX1_takeOver 62 = .ok (.invokestatic 63, 3) := by decide +kernel
theorem dX1_takeOver_65 : decode cX1_takeOver 65 = .ok (.aload_n 1, 1) := by decide +kernel
theorem dX1_takeOver_66 : decode cX1_takeOver 66 = .ok (.getfield 29, 3) := by decide +kernel
theorem dX1_takeOver_69 : decode cX1_takeOver 69 = .ok (.iconst 0, 1) := by decide +kernel
theorem dX1_takeOver_70 : decode cX1_takeOver 70 = .ok (.aload_n 0, 1) := by decide +kernel
theorem dX1_takeOver_71 : decode cX1_takeOver 71 = .ok (.getfield 29, 3) := by decide +kernel
theorem dX1_takeOver_74 : decode cX1_takeOver 74 = .ok (.iconst 0, 1) := by decide +kernel
theorem dX1_takeOver_75 : decode cX1_takeOver 75 = .ok (.bipush 64, 2) := by decide +kernel
theorem dX1_takeOver_77 : decode cX1_takeOver 77 = .ok (.invokestatic 63, 3) := by decide +kernel
theorem dX1_takeOver_80 : decode cX1_takeOver 80 = .ok (.aload_n 1, 1) := by decide +kernel
theorem dX1_takeOver_81 : decode cX1_takeOver 81 = .ok (.getfield 32, 3) := by decide +kernel
theorem dX1_takeOver_84 : decode cX1_takeOver 84 = .ok (.iconst 0, 1) := by decide +kernel
theorem dX1_takeOver_85 : decode cX1_takeOver 85 = .ok (.aload_n 0, 1) := by decide +kernel
theorem dX1_takeOver_86 : decode cX1_takeOver 86 = .ok (.getfield 32, 3) := by decide +kernel
theorem dX1_takeOver_89 : decode cX1_takeOver 89 = .ok (.iconst 0, 1) := by decide +kernel
theorem dX1_takeOver_90 : decode cX1_takeOver 90 = .ok (.bipush 64, 2) := by decide +kernel
theorem dX1_takeOver_92 : decode cX1_takeOver 92 = .ok (.invokestatic 63, 3) := by decide +kernel
theorem dX1_takeOver_95 : decode cX1_takeOver 95 = .ok (.aload_n 1, 1) := by decide +kernel
theorem dX1_takeOver_96 : decode cX1_takeOver 96 = .ok (.getfield 35, 3) := by decide +kernel
theorem dX1_takeOver_99 : decode cX1_takeOver 99 = .ok (.iconst 0, 1) := by decide +kernel
theorem dX1_takeOver_100 : decode cX1_takeOver 100 = .ok (.aload_n 0, 1) := by decide +kernel
theorem dX1_takeOver_101 : decode cX1_takeOver 101 = .ok (.getfield 35, 3) := by decide +kernel
theorem dX1_takeOver_104 : decode cX1_takeOver 104 = .ok (.iconst 0, 1) := by decide +kernel
theorem dX1_takeOver_105 : decode cX1_takeOver 105 = .ok (.bipush 64, 2) := by decide +kernel
theorem dX1_takeOver_107 : decode cX1_takeOver 107 = .ok (.invokestatic 63, 3) := by decide +kernel
theorem dX1_takeOver_110 : decode cX1_takeOver 110 = .ok (.aload_n 1, 1) := by decide +kernel
theorem dX1_takeOver_111 : decode cX1_takeOver 111 = .ok (.getfield 38, 3) := by decide +kernel
theorem dX1_takeOver_114 : decode cX1_takeOver 114 = .ok (.iconst 0, 1) := by decide +kernel
theorem dX1_takeOver_115 : decode cX1_takeOver 115 = .ok (.aload_n 0, 1) := by decide +kernel
theorem dX1_takeOver_116 : decode cX1_takeOver 116 = .ok (.getfield 38, 3) := by decide +kernel
theorem dX1_takeOver_119 : decode cX1_takeOver 119 = .ok (.iconst 0, 1) := by decide +kernel
theorem dX1_takeOver_120 : decode cX1_takeOver 120 = .ok (.bipush 64, 2) := by decide +kernel
theorem dX1_takeOver_122 : decode cX1_takeOver 122 = .ok (.invokestatic 63, 3) := by decide +kernel
theorem dX1_takeOver_125 : decode cX1_takeOver 125 = .ok (.aload_n 0, 1) := by decide +kernel
theorem dX1_takeOver_126 : decode cX1_takeOver 126 = .ok (.aload_n 1, 1) := by decide +kernel
theorem dX1_takeOver_127 : decode cX1_takeOver 127 = .ok (.getfield 41, 3) := by decide +kernel
theorem dX1_takeOver_130 : decode cX1_takeOver 130 = .ok (.putfield 41, 3) := by decide +kernel
theorem dX1_takeOver_133 : decode cX1_takeOver 133 = .ok (.aload_n 0, 1) := by decide +kernel
theorem dX1_takeOver_134 : decode cX1_takeOver 134 = .ok (.aload_n 1, 1) := by decide +kernel
theorem dX1_takeOver_135 : decode cX1_takeOver 135 = .ok (.getfield 44, 3) := by decide +kernel
theorem dX1_takeOver_138 : decode cX1_takeOver 138 = .ok (.putfield 44, 3) := by decide +kernel
theorem dX1_takeOver_141 : decode cX1_takeOver 141 = .ok (.aload_n 0, 1) := by decide +kernel
theorem dX1_takeOver_142 : decode cX1_takeOver 142 = .ok (.aload_n 1, 1) := by decide +kernel
theorem dX1_takeOver_143 : decode cX1_takeOver 143 = .ok (.getfield 47, 3) := by decide +kernel
theorem dX1_takeOver_146 : decode cX1_takeOver 146 = .ok (.putfield 47, 3) := by decide +kernel
theorem dX1_takeOver_149 : decode cX1_takeOver 149 = .ok (.aload_n 0, 1) := by decide +kernel
theorem dX1_takeOver_150 : decode cX1_takeOver 150 = .ok (.aload_n 1, 1) := by decide +kernel
theorem dX1_takeOver_151 : decode cX1_takeOver 151 = .ok (.getfield 50, 3) := by decide +kernel
theorem dX1_takeOver_154 : decode cX1_takeOver 154 = .ok (.putfield 50, 3) := by decide +kernel
theorem dX1_takeOver_157 : decode cX1_takeOver 157 = .ok (.aload_n 0, 1) := by decide +kernel
theorem dX1_takeOver_158 : decode cX1_takeOver 158 = .ok (.aload_n 1, 1) := by decide +kernel
theorem dX1_takeOver_159 : decode cX1_takeOver 159 = .ok (.getfield 53, 3) := by decide +kernel
theorem dX1_takeOver_162 : decode cX1_takeOver 162 = .ok (.putfield 53, 3) := by decide +kernel
theorem dX1_takeOver_165 : decode cX1_takeOver 165 = .ok (.aload_n 0, 1) := by decide +kernel
theorem dX1_takeOver_166 : decode cX1_takeOver 166 = .ok (.aload_n 1, 1) := by decide +kernel
theorem dX1_takeOver_167 : decode cX1_takeOver 167 = .ok (.getfield 56, 3) := by decide +kernel
theorem dX1_takeOver_170 : decode cX1_takeOver 170 = .ok (.putfield 56, 3) := by decide +kernel
theorem dX1_takeOver_173 : decode cX1_takeOver 173 = .ok (.return_, 1) := by decide +kernel
theorem dX1_divide_0 : decode cX1_divide 0 = .ok (.aload_n 0, 1) := by decide +kernel
theorem dX1_divide_1 : decode cX1_divide 1 = .ok (.getfield 19, 3) := by decide +kernel
theorem dX1_divide_4 : decode cX1_divide 4 = .ok (.iload_n 1, 1) := by decide +kernel
theorem dX1_divide_5 : decode cX1_divide 5 = .ok (.iload_n 2, 1) := by decide +kernel
theorem dX1_divide_6 : decode cX1_divide 6 = .ok (.iastore, 1) := by decide +kernel
theorem dX1_divide_7 : decode cX1_divide 7 = .ok (.iconst 0, 1) := by decide +kernel
theorem dX1_divide_8 : decode cX1_divide 8 = .ok (.istore_n 3, 1) := by decide +kernel
theorem dX1_divide_9 : decode cX1_divide 9 = .ok (.iload_n 3, 1) := by decide +kernel
theorem dX1_divide_10 : decode cX1_divide 10 = .ok (.bipush 16, 2) := by decide +kernel
theorem dX1_divide_12 : decode cX1_divide 12 = .ok (.if_icmp .ge 53, 3) := by decide +kernel
theorem dX1_divide_15 : decode cX1_divide 15 = .ok (.iload_n 1, 1) := by decide +kernel
theorem dX1_divide_16 : decode cX1_divide 16 = .ok (.bipush 16, 2) := by decide +kernel
theorem dX1_divide_18 : decode cX1_divide 18 = .ok (.imul, 1) := by decide +kernel
theorem dX1_divide_19 : decode cX1_divide 19 = .ok (.iload_n 3, 1) := by decide +kernel
theorem dX1_divide_20 : decode cX1_divide 20 = .ok (.iadd, 1) := by decide +kernel
theorem dX1_divide_21 : decode cX1_divide 21 = .ok (.istore 4, 2) := by decide +kernel
theorem dX1_divide_23 : decode cX1_divide 23 = .ok (.aload_n 0, 1) := by decide +kernel
theorem dX1_divide_24 : decode cX1_divide 24 = .ok (.iload 4, 2) := by decide +kernel
theorem dX1_divide_26 : decode cX1_divide 26 = .ok (.invokevirtual 69, 3) := by decide +kernel
theorem dX1_divide_29 : decode cX1_divide 29 = .ok (.ifCond .eq 8, 3) := by decide +kernel
theorem dX1_divide_32 : decode cX1_divide 32 = .ok (.iload 4, 2) := by decide +kernel
theorem dX1_divide_34 : decode cX1_divide 34 = .ok (.goto 5, 3) := by decide +kernel
theorem dX1_divide_37 : decode cX1_divide 37 = .ok (.bipush (-5), 2) := by decide +kernel
theorem dX1_divide_39 : decode cX1_divide 39 = .ok (.istore 5, 2) := by decide +kernel
theorem dX1_divide_41 : decode cX1_divide 41 = .ok (.aload_n 0, 1) := by decide +kernel
theorem dX1_divide_42 : decode cX1_divide 42 = .ok (.getfield 35, 3) := by decide +kernel
theorem dX1_divide_45 : decode cX1_divide 45 = .ok (.iload 4, 2) := by decide +kernel
theorem dX1_divide_47 : decode cX1_divide 47 = .ok (.iload 5, 2) := by decide +kernel
theorem dX1_divide_49 : decode cX1_divide 49 = .ok (.iastore, 1) := by decide +kernel
theorem dX1_divide_50 : decode cX1_divide 50 = .ok (.aload_n 0, 1) := by decide +kernel
theorem dX1_divide_51 : decode cX1_divide 51 = .ok (.getfield 38, 3) := by decide +kernel
theorem dX1_divide_54 : decode cX1_divide 54 = .ok (.iload 4, 2) := by decide +kernel
theorem dX1_divide_56 : decode cX1_divide 56 = .ok (.iload 5, 2) := by decide +kernel
theorem dX1_divide_58 : decode cX1_divide 58 = .ok (.iastore, 1) := by decide +kernel
theorem dX1_divide_59 : decode cX1_divide 59 = .ok (.iinc 3 1, 3) := by decide +kernel
theorem dX1_divide_62 : decode cX1_divide 62 = .ok (.goto (-53), 3) := by decide +kernel
theorem dX1_divide_65 : decode cX1_divide 65 = .ok (.return_, 1) := by decide +kernel
theorem dX1_isAddress_0 : decode cX1_isAddress 0 = .ok (.iload_n 1, 1) := by decide +kernel
theorem dX1_isAddress_1 : decode cX1_isAddress 1 = .ok (.invokestatic 73, 3) := by decide +kernel
theorem dX1_isAddress_4 : decode cX1_isAddress 4 = .ok (.ifCond .eq 26, 3) := by decide +kernel
theorem dX1_isAddress_7 : decode cX1_isAddress 7 = .ok (.iload_n 1, 1) := by decide +kernel
theorem dX1_isAddress_8 : decode cX1_isAddress 8 = .ok (.invokestatic 76, 3) := by decide +kernel
theorem dX1_isAddress_11 : decode cX1_isAddress 11 = .ok (.bipush 16, 2) := by decide +kernel
theorem dX1_isAddress_13 : decode cX1_isAddress 13 = .ok (.aload_n 0, 1) := by decide +kernel
theorem dX1_isAddress_14 : decode cX1_isAddress 14 = .ok (.getfield 19, 3) := by decide +kernel
theorem dX1_isAddress_17 : decode cX1_isAddress 17 = .ok (.iload_n 1, 1) := by decide +kernel
theorem dX1_isAddress_18 : decode cX1_isAddress 18 = .ok (.invokestatic 80, 3) := by decide +kernel
theorem dX1_isAddress_21 : decode cX1_isAddress 21 = .ok (.iaload, 1) := by decide +kernel
theorem dX1_isAddress_22 : decode cX1_isAddress 22 = .ok (.isub, 1) := by decide +kernel
theorem dX1_isAddress_23 : decode cX1_isAddress 23 = .ok (.if_icmp .ge 7, 3) := by decide +kernel
theorem dX1_isAddress_26 : decode cX1_isAddress 26 = .ok (.iconst 1, 1) := by decide +kernel
theorem dX1_isAddress_27 : decode cX1_isAddress 27 = .ok (.goto 4, 3) := by decide +kernel
theorem dX1_isAddress_30 : decode cX1_isAddress 30 = .ok (.iconst 0, 1) := by decide +kernel
theorem dX1_isAddress_31 : decode cX1_isAddress 31 = .ok (.ireturn, 1) := by decide +kernel
theorem dX1_isGivenUp_0 : decode cX1_isGivenUp 0 = .ok (.aload_n 0, 1) := by decide +kernel
theorem dX1_isGivenUp_1 : decode cX1_isGivenUp 1 = .ok (.getfield 22, 3) := by decide +kernel
theorem dX1_isGivenUp_4 : decode cX1_isGivenUp 4 = .ok (.iload_n 1, 1) := by decide +kernel
theorem dX1_isGivenUp_5 : decode cX1_isGivenUp 5 = .ok (.baload, 1) := by decide +kernel
theorem dX1_isGivenUp_6 : decode cX1_isGivenUp 6 = .ok (.ireturn, 1) := by decide +kernel
theorem dX1_othersAreGivenUp_0 : decode cX1_othersAreGivenUp 0 = .ok (.iconst 0, 1) := by decide +kernel
theorem dX1_othersAreGivenUp_1 : decode cX1_othersAreGivenUp 1 = .ok (.istore_n 2, 1) := by decide +kernel
theorem dX1_othersAreGivenUp_2 : decode cX1_othersAreGivenUp 2 = .ok (.iload_n 2, 1) := by decide +kernel
theorem dX1_othersAreGivenUp_3 : decode cX1_othersAreGivenUp 3 = .ok (.iconst 4, 1) := by decide +kernel
theorem dX1_othersAreGivenUp_4 : decode cX1_othersAreGivenUp 4 = .ok (.if_icmp .ge 25, 3) := by decide +kernel
theorem dX1_othersAreGivenUp_7 : decode cX1_othersAreGivenUp 7 = .ok (.iload_n 2, 1) := by decide +kernel
theorem dX1_othersAreGivenUp_8 : decode cX1_othersAreGivenUp 8 = .ok (.iload_n 1, 1) := by decide +kernel
theorem dX1_othersAreGivenUp_9 : decode cX1_othersAreGivenUp 9 = .ok (.if_icmp .eq 14, 3) := by decide +kernel
theorem dX1_othersAreGivenUp_12 : decode cX1_othersAreGivenUp 12 = .ok (.aload_n 0, 1) := by decide +kernel
theorem dX1_othersAreGivenUp_13 : decode cX1_othersAreGivenUp 13 = .ok (.getfield 22, 3) := by decide +kernel
theorem dX1_othersAreGivenUp_16 : decode cX1_othersAreGivenUp 16 = .ok (.iload_n 2, 1) := by decide +kernel
theorem dX1_othersAreGivenUp_17 : decode cX1_othersAreGivenUp 17 = .ok (.baload, 1) := by decide +kernel
theorem dX1_othersAreGivenUp_18 : decode cX1_othersAreGivenUp 18 = .ok (.ifCond .ne 5, 3) := by decide +kernel
theorem dX1_othersAreGivenUp_21 : decode cX1_othersAreGivenUp 21 = .ok (.iconst 0, 1) := by decide +kernel
theorem dX1_othersAreGivenUp_22 : decode cX1_othersAreGivenUp 22 = .ok (.ireturn, 1) := by decide +kernel
theorem dX1_othersAreGivenUp_23 : decode cX1_othersAreGivenUp 23 = .ok (.iinc 2 1, 3) := by decide +kernel
theorem dX1_othersAreGivenUp_26 : decode cX1_othersAreGivenUp 26 = .ok (.goto (-24), 3) := by decide +kernel
theorem dX1_othersAreGivenUp_29 : decode cX1_othersAreGivenUp 29 = .ok (.iconst 1, 1) := by decide +kernel
theorem dX1_othersAreGivenUp_30 : decode cX1_othersAreGivenUp 30 = .ok (.ireturn, 1) := by decide +kernel
theorem dX1_stepsSoFar_0 : decode cX1_stepsSoFar 0 = .ok (.aload_n 0, 1) := by decide +kernel
theorem dX1_stepsSoFar_1 : decode cX1_stepsSoFar 1 = .ok (.getfield 44, 3) := by decide +kernel
theorem dX1_stepsSoFar_4 : decode cX1_stepsSoFar 4 = .ok (.ireturn, 1) := by decide +kernel
theorem dX1_isLost_0 : decode cX1_isLost 0 = .ok (.aload_n 0, 1) := by decide +kernel
theorem dX1_isLost_1 : decode cX1_isLost 1 = .ok (.getfield 35, 3) := by decide +kernel
theorem dX1_isLost_4 : decode cX1_isLost 4 = .ok (.iload_n 1, 1) := by decide +kernel
theorem dX1_isLost_5 : decode cX1_isLost 5 = .ok (.iaload, 1) := by decide +kernel
theorem dX1_isLost_6 : decode cX1_isLost 6 = .ok (.bipush (-5), 2) := by decide +kernel
theorem dX1_isLost_8 : decode cX1_isLost 8 = .ok (.if_icmp .ne 7, 3) := by decide +kernel
theorem dX1_isLost_11 : decode cX1_isLost 11 = .ok (.iconst 1, 1) := by decide +kernel
theorem dX1_isLost_12 : decode cX1_isLost 12 = .ok (.goto 4, 3) := by decide +kernel
theorem dX1_isLost_15 : decode cX1_isLost 15 = .ok (.iconst 0, 1) := by decide +kernel
theorem dX1_isLost_16 : decode cX1_isLost 16 = .ok (.ireturn, 1) := by decide +kernel
theorem dX1_isLongWay_0 : decode cX1_isLongWay 0 = .ok (.aload_n 0, 1) := by decide +kernel
theorem dX1_isLongWay_1 : decode cX1_isLongWay 1 = .ok (.iload_n 1, 1) := by decide +kernel
theorem dX1_isLongWay_2 : decode cX1_isLongWay 2 = .ok (.invokevirtual 83, 3) := by decide +kernel
theorem dX1_isLongWay_5 : decode cX1_isLongWay 5 = .ok (.ifCond .ne 17, 3) := by decide +kernel
theorem dX1_isLongWay_8 : decode cX1_isLongWay 8 = .ok (.aload_n 0, 1) := by decide +kernel
theorem dX1_isLongWay_9 : decode cX1_isLongWay 9 = .ok (.getfield 35, 3) := by decide +kernel
theorem dX1_isLongWay_12 : decode cX1_isLongWay 12 = .ok (.iload_n 1, 1) := by decide +kernel
theorem dX1_isLongWay_13 : decode cX1_isLongWay 13 = .ok (.iaload, 1) := by decide +kernel
theorem dX1_isLongWay_14 : decode cX1_isLongWay 14 = .ok (.iload_n 1, 1) := by decide +kernel
theorem dX1_isLongWay_15 : decode cX1_isLongWay 15 = .ok (.if_icmp .eq 7, 3) := by decide +kernel
theorem dX1_isLongWay_18 : decode cX1_isLongWay 18 = .ok (.iconst 1, 1) := by decide +kernel
theorem dX1_isLongWay_19 : decode cX1_isLongWay 19 = .ok (.goto 4, 3) := by decide +kernel
theorem dX1_isLongWay_22 : decode cX1_isLongWay 22 = .ok (.iconst 0, 1) := by decide +kernel
theorem dX1_isLongWay_23 : decode cX1_isLongWay 23 = .ok (.ireturn, 1) := by decide +kernel
theorem dX1_isGood_0 : decode cX1_isGood 0 = .ok (.aload_n 0, 1) := by decide +kernel
theorem dX1_isGood_1 : decode cX1_isGood 1 = .ok (.getfield 26, 3) := by decide +kernel
theorem dX1_isGood_4 : decode cX1_isGood 4 = .ok (.iload_n 1, 1) := by decide +kernel
theorem dX1_isGood_5 : decode cX1_isGood 5 = .ok (.iaload, 1) := by decide +kernel
theorem dX1_isGood_6 : decode cX1_isGood 6 = .ok (.aload_n 0, 1) := by decide +kernel
theorem dX1_isGood_7 : decode cX1_isGood 7 = .ok (.getfield 9, 3) := by decide +kernel
theorem dX1_isGood_10 : decode cX1_isGood 10 = .ok (.if_icmp .ge 7, 3) := by decide +kernel
theorem dX1_isGood_13 : decode cX1_isGood 13 = .ok (.iconst 1, 1) := by decide +kernel
theorem dX1_isGood_14 : decode cX1_isGood 14 = .ok (.goto 4, 3) := by decide +kernel
theorem dX1_isGood_17 : decode cX1_isGood 17 = .ok (.iconst 0, 1) := by decide +kernel
theorem dX1_isGood_18 : decode cX1_isGood 18 = .ok (.ireturn, 1) := by decide +kernel
theorem dX1_isBad_0 : decode cX1_isBad 0 = .ok (.aload_n 0, 1) := by decide +kernel
theorem dX1_isBad_1 : decode cX1_isBad 1 = .ok (.getfield 26, 3) := by decide +kernel
theorem dX1_isBad_4 : decode cX1_isBad 4 = .ok (.iload_n 1, 1) := by decide +kernel
theorem dX1_isBad_5 : decode cX1_isBad 5 = .ok (.iaload, 1) := by decide +kernel
theorem dX1_isBad_6 : decode cX1_isBad 6 = .ok (.iconst 2, 1) := by decide +kernel
theorem dX1_isBad_7 : decode cX1_isBad 7 = .ok (.aload_n 0, 1) := by decide +kernel
theorem dX1_isBad_8 : decode cX1_isBad 8 = .ok (.getfield 9, 3) := by decide +kernel
theorem dX1_isBad_11 : decode cX1_isBad 11 = .ok (.imul, 1) := by decide +kernel
theorem dX1_isBad_12 : decode cX1_isBad 12 = .ok (.if_icmp .lt 7, 3) := by decide +kernel
theorem dX1_isBad_15 : decode cX1_isBad 15 = .ok (.iconst 1, 1) := by decide +kernel
theorem dX1_isBad_16 : decode cX1_isBad 16 = .ok (.goto 4, 3) := by decide +kernel
theorem dX1_isBad_19 : decode cX1_isBad 19 = .ok (.iconst 0, 1) := by decide +kernel
theorem dX1_isBad_20 : decode cX1_isBad 20 = .ok (.ireturn, 1) := by decide +kernel
theorem dX1_gradeOf_0 : decode cX1_gradeOf 0 = .ok (.aload_n 0, 1) := by decide +kernel
theorem dX1_gradeOf_1 : decode cX1_gradeOf 1 = .ok (.iload_n 1, 1) := by decide +kernel
theorem dX1_gradeOf_2 : decode cX1_gradeOf 2 = .ok (.invokevirtual 86, 3) := by decide +kernel
theorem dX1_gradeOf_5 : decode cX1_gradeOf 5 = .ok (.ifCond .eq 5, 3) := by decide +kernel
theorem dX1_gradeOf_8 : decode cX1_gradeOf 8 = .ok (.iconst 0, 1) := by decide +kernel
theorem dX1_gradeOf_9 : decode cX1_gradeOf 9 = .ok (.ireturn, 1) := by decide +kernel
theorem dX1_gradeOf_10 : decode cX1_gradeOf 10 = .ok (.aload_n 0, 1) := by decide +kernel
theorem dX1_gradeOf_11 : decode cX1_gradeOf 11 = .ok (.iload_n 1, 1) := by decide +kernel
theorem dX1_gradeOf_12 : decode cX1_gradeOf 12 = .ok (.invokevirtual 89, 3) := by decide +kernel
theorem dX1_gradeOf_15 : decode cX1_gradeOf 15 = .ok (.ifCond .eq 7, 3) := by decide +kernel
theorem dX1_gradeOf_18 : decode cX1_gradeOf 18 = .ok (.iconst 2, 1) := by decide +kernel
theorem dX1_gradeOf_19 : decode cX1_gradeOf 19 = .ok (.goto 4, 3) := by decide +kernel
theorem dX1_gradeOf_22 : decode cX1_gradeOf 22 = .ok (.iconst 1, 1) := by decide +kernel
theorem dX1_gradeOf_23 : decode cX1_gradeOf 23 = .ok (.ireturn, 1) := by decide +kernel
theorem dX1_isFree_0 : decode cX1_isFree 0 = .ok (.iload_n 1, 1) := by decide +kernel
theorem dX1_isFree_1 : decode cX1_isFree 1 = .ok (.invokestatic 80, 3) := by decide +kernel
theorem dX1_isFree_4 : decode cX1_isFree 4 = .ok (.istore_n 2, 1) := by decide +kernel
theorem dX1_isFree_5 : decode cX1_isFree 5 = .ok (.iload_n 1, 1) := by decide +kernel
theorem dX1_isFree_6 : decode cX1_isFree 6 = .ok (.invokestatic 76, 3) := by decide +kernel
theorem dX1_isFree_9 : decode cX1_isFree 9 = .ok (.bipush 16, 2) := by decide +kernel
theorem dX1_isFree_11 : decode cX1_isFree 11 = .ok (.aload_n 0, 1) := by decide +kernel
theorem dX1_isFree_12 : decode cX1_isFree 12 = .ok (.getfield 19, 3) := by decide +kernel
theorem dX1_isFree_15 : decode cX1_isFree 15 = .ok (.iload_n 2, 1) := by decide +kernel
theorem dX1_isFree_16 : decode cX1_isFree 16 = .ok (.iaload, 1) := by decide +kernel
theorem dX1_isFree_17 : decode cX1_isFree 17 = .ok (.isub, 1) := by decide +kernel
theorem dX1_isFree_18 : decode cX1_isFree 18 = .ok (.if_icmp .lt 7, 3) := by decide +kernel
theorem dX1_isFree_21 : decode cX1_isFree 21 = .ok (.iconst 1, 1) := by decide +kernel
theorem dX1_isFree_22 : decode cX1_isFree 22 = .ok (.goto 4, 3) := by decide +kernel
theorem dX1_isFree_25 : decode cX1_isFree 25 = .ok (.iconst 0, 1) := by decide +kernel
theorem dX1_isFree_26 : decode cX1_isFree 26 = .ok (.istore_n 3, 1) := by decide +kernel
theorem dX1_isFree_27 : decode cX1_isFree 27 = .ok (.iload_n 3, 1) := by decide +kernel
theorem dX1_isFree_28 : decode cX1_isFree 28 = .ok (.ifCond .eq 35, 3) := by decide +kernel
theorem dX1_isFree_31 : decode cX1_isFree 31 = .ok (.aload_n 0, 1) := by decide +kernel
theorem dX1_isFree_32 : decode cX1_isFree 32 = .ok (.getfield 38, 3) := by decide +kernel
theorem dX1_isFree_35 : decode cX1_isFree 35 = .ok (.iload_n 1, 1) := by decide +kernel
theorem dX1_isFree_36 : decode cX1_isFree 36 = .ok (.iaload, 1) := by decide +kernel
theorem dX1_isFree_37 : decode cX1_isFree 37 = .ok (.bipush (-5), 2) := by decide +kernel
theorem dX1_isFree_39 : decode cX1_isFree 39 = .ok (.if_icmp .ne 24, 3) := by decide +kernel
theorem dX1_isFree_42 : decode cX1_isFree 42 = .ok (.aload_n 0, 1) := by decide +kernel
theorem dX1_isFree_43 : decode cX1_isFree 43 = .ok (.iload_n 1, 1) := by decide +kernel
theorem dX1_isFree_44 : decode cX1_isFree 44 = .ok (.invokevirtual 86, 3) := by decide +kernel
theorem dX1_isFree_47 : decode cX1_isFree 47 = .ok (.ifCond .eq 16, 3) := by decide +kernel
theorem dX1_isFree_50 : decode cX1_isFree 50 = .ok (.aload_n 0, 1) := by decide +kernel
theorem dX1_isFree_51 : decode cX1_isFree 51 = .ok (.getfield 22, 3) := by decide +kernel
theorem dX1_isFree_54 : decode cX1_isFree 54 = .ok (.iload_n 2, 1) := by decide +kernel
theorem dX1_isFree_55 : decode cX1_isFree 55 = .ok (.baload, 1) := by decide +kernel
theorem dX1_isFree_56 : decode cX1_isFree 56 = .ok (.ifCond .ne 7, 3) := by decide +kernel
theorem dX1_isFree_59 : decode cX1_isFree 59 = .ok (.iconst 1, 1) := by decide +kernel
theorem dX1_isFree_60 : decode cX1_isFree 60 = .ok (.goto 4, 3) := by decide +kernel
theorem dX1_isFree_63 : decode cX1_isFree 63 = .ok (.iconst 0, 1) := by decide +kernel
theorem dX1_isFree_64 : decode cX1_isFree 64 = .ok (.ireturn, 1) := by decide +kernel
theorem dX1_freeOf_0 : decode cX1_freeOf 0 = .ok (.iconst 0, 1) := by decide +kernel
theorem dX1_freeOf_1 : decode cX1_freeOf 1 = .ok (.istore_n 2, 1) := by decide +kernel
theorem dX1_freeOf_2 : decode cX1_freeOf 2 = .ok (.iconst 0, 1) := by decide +kernel
theorem dX1_freeOf_3 : decode cX1_freeOf 3 = .ok (.istore_n 3, 1) := by decide +kernel
theorem dX1_freeOf_4 : decode cX1_freeOf 4 = .ok (.iload_n 3, 1) := by decide +kernel
theorem dX1_freeOf_5 : decode cX1_freeOf 5 = .ok (.bipush 16, 2) := by decide +kernel
theorem dX1_freeOf_7 : decode cX1_freeOf 7 = .ok (.if_icmp .ge 25, 3) := by decide +kernel
theorem dX1_freeOf_10 : decode cX1_freeOf 10 = .ok (.aload_n 0, 1) := by decide +kernel
theorem dX1_freeOf_11 : decode cX1_freeOf 11 = .ok (.iload_n 1, 1) := by decide +kernel
theorem dX1_freeOf_12 : decode cX1_freeOf 12 = .ok (.bipush 16, 2) := by decide +kernel
theorem dX1_freeOf_14 : decode cX1_freeOf 14 = .ok (.imul, 1) := by decide +kernel
theorem dX1_freeOf_15 : decode cX1_freeOf 15 = .ok (.iload_n 3, 1) := by decide +kernel
theorem dX1_freeOf_16 : decode cX1_freeOf 16 = .ok (.iadd, 1) := by decide +kernel
theorem dX1_freeOf_17 : decode cX1_freeOf 17 = .ok (.invokevirtual 92, 3) := by decide +kernel
theorem dX1_freeOf_20 : decode cX1_freeOf 20 = .ok (.ifCond .eq 6, 3) := by decide +kernel
theorem dX1_freeOf_23 : decode cX1_freeOf 23 = .ok (.iinc 2 1, 3) := by decide +kernel
theorem dX1_freeOf_26 : decode cX1_freeOf 26 = .ok (.iinc 3 1, 3) := by decide +kernel
theorem dX1_freeOf_29 : decode cX1_freeOf 29 = .ok (.goto (-25), 3) := by decide +kernel
theorem dX1_freeOf_32 : decode cX1_freeOf 32 = .ok (.iload_n 2, 1) := by decide +kernel
theorem dX1_freeOf_33 : decode cX1_freeOf 33 = .ok (.ireturn, 1) := by decide +kernel
theorem dX1_firstFreeOf_0 : decode cX1_firstFreeOf 0 = .ok (.iconst 0, 1) := by decide +kernel
theorem dX1_firstFreeOf_1 : decode cX1_firstFreeOf 1 = .ok (.istore_n 2, 1) := by decide +kernel
theorem dX1_firstFreeOf_2 : decode cX1_firstFreeOf 2 = .ok (.iload_n 2, 1) := by decide +kernel
theorem dX1_firstFreeOf_3 : decode cX1_firstFreeOf 3 = .ok (.bipush 16, 2) := by decide +kernel
theorem dX1_firstFreeOf_5 : decode cX1_firstFreeOf 5 = .ok (.if_icmp .ge 29, 3) := by decide +kernel
theorem dX1_firstFreeOf_8 : decode cX1_firstFreeOf 8 = .ok (.aload_n 0, 1) := by decide +kernel
theorem dX1_firstFreeOf_9 : decode cX1_firstFreeOf 9 = .ok (.iload_n 1, 1) := by decide +kernel
theorem dX1_firstFreeOf_10 : decode cX1_firstFreeOf 10 = .ok (.bipush 16, 2) := by decide +kernel
theorem dX1_firstFreeOf_12 : decode cX1_firstFreeOf 12 = .ok (.imul, 1) := by decide +kernel
theorem dX1_firstFreeOf_13 : decode cX1_firstFreeOf 13 = .ok (.iload_n 2, 1) := by decide +kernel
theorem dX1_firstFreeOf_14 : decode cX1_firstFreeOf 14 = .ok (.iadd, 1) := by decide +kernel
theorem dX1_firstFreeOf_15 : decode cX1_firstFreeOf 15 = .ok (.invokevirtual 92, 3) := by decide +kernel
theorem dX1_firstFreeOf_18 : decode cX1_firstFreeOf 18 = .ok (.ifCond .eq 10, 3) := by decide +kernel
theorem dX1_firstFreeOf_21 : decode cX1_firstFreeOf 21 = .ok (.iload_n 1, 1) := by decide +kernel
theorem dX1_firstFreeOf_22 : decode cX1_firstFreeOf 22 = .ok (.bipush 16, 2) := by decide +kernel
theorem dX1_firstFreeOf_24 : decode cX1_firstFreeOf 24 = .ok (.imul, 1) := by decide +kernel
theorem dX1_firstFreeOf_25 : decode cX1_firstFreeOf 25 = .ok (.iload_n 2, 1) := by decide +kernel
theorem dX1_firstFreeOf_26 : decode cX1_firstFreeOf 26 = .ok (.iadd, 1) := by decide +kernel
theorem dX1_firstFreeOf_27 : decode cX1_firstFreeOf 27 = .ok (.ireturn, 1) := by decide +kernel
theorem dX1_firstFreeOf_28 : decode cX1_firstFreeOf 28 = .ok (.iinc 2 1, 3) := by decide +kernel
theorem dX1_firstFreeOf_31 : decode cX1_firstFreeOf 31 = .ok (.goto (-29), 3) := by decide +kernel
theorem dX1_firstFreeOf_34 : decode cX1_firstFreeOf 34 = .ok (.bipush (-5), 2) := by decide +kernel
theorem dX1_firstFreeOf_36 : decode cX1_firstFreeOf 36 = .ok (.ireturn, 1) := by decide +kernel
theorem dX1_lendableTo_0 : decode cX1_lendableTo 0 = .ok (.aload_n 0, 1) := by decide +kernel
theorem dX1_lendableTo_1 : decode cX1_lendableTo 1 = .ok (.iload_n 1, 1) := by decide +kernel
theorem dX1_lendableTo_2 : decode cX1_lendableTo 2 = .ok (.invokestatic 80, 3) := by decide +kernel
theorem dX1_lendableTo_5 : decode cX1_lendableTo 5 = .ok (.invokevirtual 95, 3) := by decide +kernel
theorem dX1_lendableTo_8 : decode cX1_lendableTo 8 = .ok (.istore_n 2, 1) := by decide +kernel
theorem dX1_lendableTo_9 : decode cX1_lendableTo 9 = .ok (.iload_n 2, 1) := by decide +kernel
theorem dX1_lendableTo_10 : decode cX1_lendableTo 10 = .ok (.bipush (-5), 2) := by decide +kernel
theorem dX1_lendableTo_12 : decode cX1_lendableTo 12 = .ok (.if_icmp .eq 5, 3) := by decide +kernel
theorem dX1_lendableTo_15 : decode cX1_lendableTo 15 = .ok (.iload_n 2, 1) := by decide +kernel
theorem dX1_lendableTo_16 : decode cX1_lendableTo 16 = .ok (.ireturn, 1) := by decide +kernel
theorem dX1_lendableTo_17 : decode cX1_lendableTo 17 = .ok (.iconst 0, 1) := by decide +kernel
theorem dX1_lendableTo_18 : decode cX1_lendableTo 18 = .ok (.istore_n 3, 1) := by decide +kernel
theorem dX1_lendableTo_19 : decode cX1_lendableTo 19 = .ok (.iconst 0, 1) := by decide +kernel
theorem dX1_lendableTo_20 : decode cX1_lendableTo 20 = .ok (.istore 4, 2) := by decide +kernel
theorem dX1_lendableTo_22 : decode cX1_lendableTo 22 = .ok (.iconst 0, 1) := by decide +kernel
theorem dX1_lendableTo_23 : decode cX1_lendableTo 23 = .ok (.istore 5, 2) := by decide +kernel
theorem dX1_lendableTo_25 : decode cX1_lendableTo 25 = .ok (.iload 5, 2) := by decide +kernel
theorem dX1_lendableTo_27 : decode cX1_lendableTo 27 = .ok (.iconst 4, 1) := by decide +kernel
theorem dX1_lendableTo_28 : decode cX1_lendableTo 28 = .ok (.if_icmp .ge 31, 3) := by decide +kernel
theorem dX1_lendableTo_31 : decode cX1_lendableTo 31 = .ok (.aload_n 0, 1) := by decide +kernel
theorem dX1_lendableTo_32 : decode cX1_lendableTo 32 = .ok (.iload 5, 2) := by decide +kernel
theorem dX1_lendableTo_34 : decode cX1_lendableTo 34 = .ok (.invokevirtual 98, 3) := by decide +kernel
theorem dX1_lendableTo_37 : decode cX1_lendableTo 37 = .ok (.istore 6, 2) := by decide +kernel
theorem dX1_lendableTo_39 : decode cX1_lendableTo 39 = .ok (.iload 6, 2) := by decide +kernel
theorem dX1_lendableTo_41 : decode cX1_lendableTo 41 = .ok (.iload 4, 2) := by decide +kernel
theorem dX1_lendableTo_43 : decode cX1_lendableTo 43 = .ok (.if_icmp .le 10, 3) := by decide +kernel
theorem dX1_lendableTo_46 : decode cX1_lendableTo 46 = .ok (.iload 5, 2) := by decide +kernel
theorem dX1_lendableTo_48 : decode cX1_lendableTo 48 = .ok (.istore_n 3, 1) := by decide +kernel
theorem dX1_lendableTo_49 : decode cX1_lendableTo 49 = .ok (.iload 6, 2) := by decide +kernel
theorem dX1_lendableTo_51 : decode cX1_lendableTo 51 = .ok (.istore 4, 2) := by decide +kernel
theorem dX1_lendableTo_53 : decode cX1_lendableTo 53 = .ok (.iinc 5 1, 3) := by decide +kernel
theorem dX1_lendableTo_56 : decode cX1_lendableTo 56 = .ok (.goto (-31), 3) := by decide +kernel
theorem dX1_lendableTo_59 : decode cX1_lendableTo 59 = .ok (.aload_n 0, 1) := by decide +kernel
theorem dX1_lendableTo_60 : decode cX1_lendableTo 60 = .ok (.iload_n 3, 1) := by decide +kernel
theorem dX1_lendableTo_61 : decode cX1_lendableTo 61 = .ok (.invokevirtual 95, 3) := by decide +kernel
theorem dX1_lendableTo_64 : decode cX1_lendableTo 64 = .ok (.ireturn, 1) := by decide +kernel
theorem dX1_stepsTo_0 : decode cX1_stepsTo 0 = .ok (.aload_n 0, 1) := by decide +kernel
theorem dX1_stepsTo_1 : decode cX1_stepsTo 1 = .ok (.getfield 35, 3) := by decide +kernel
theorem dX1_stepsTo_4 : decode cX1_stepsTo 4 = .ok (.iload_n 1, 1) := by decide +kernel
theorem dX1_stepsTo_5 : decode cX1_stepsTo 5 = .ok (.iaload, 1) := by decide +kernel
theorem dX1_stepsTo_6 : decode cX1_stepsTo 6 = .ok (.istore_n 2, 1) := by decide +kernel
theorem dX1_stepsTo_7 : decode cX1_stepsTo 7 = .ok (.iload_n 2, 1) := by decide +kernel
theorem dX1_stepsTo_8 : decode cX1_stepsTo 8 = .ok (.iload_n 1, 1) := by decide +kernel
theorem dX1_stepsTo_9 : decode cX1_stepsTo 9 = .ok (.if_icmp .eq 15, 3) := by decide +kernel
theorem dX1_stepsTo_12 : decode cX1_stepsTo 12 = .ok (.aload_n 0, 1) := by decide +kernel
theorem dX1_stepsTo_13 : decode cX1_stepsTo 13 = .ok (.getfield 22, 3) := by decide +kernel
theorem dX1_stepsTo_16 : decode cX1_stepsTo 16 = .ok (.iload_n 1, 1) := by decide +kernel
theorem dX1_stepsTo_17 : decode cX1_stepsTo 17 = .ok (.invokestatic 80, 3) := by decide +kernel
theorem dX1_stepsTo_20 : decode cX1_stepsTo 20 = .ok (.baload, 1) := by decide +kernel
theorem dX1_stepsTo_21 : decode cX1_stepsTo 21 = .ok (.ifCond .eq 12, 3) := by decide +kernel
theorem dX1_stepsTo_24 : decode cX1_stepsTo 24 = .ok (.aload_n 0, 1) := by decide +kernel
theorem dX1_stepsTo_25 : decode cX1_stepsTo 25 = .ok (.getfield 41, 3) := by decide +kernel
theorem dX1_stepsTo_28 : decode cX1_stepsTo 28 = .ok (.iload_n 2, 1) := by decide +kernel
theorem dX1_stepsTo_29 : decode cX1_stepsTo 29 = .ok (.invokestatic 101, 3) := by decide +kernel
theorem dX1_stepsTo_32 : decode cX1_stepsTo 32 = .ok (.ireturn, 1) := by decide +kernel
theorem dX1_stepsTo_33 : decode cX1_stepsTo 33 = .ok (.aload_n 0, 1) := by decide +kernel
theorem dX1_stepsTo_34 : decode cX1_stepsTo 34 = .ok (.getfield 41, 3) := by decide +kernel
theorem dX1_stepsTo_37 : decode cX1_stepsTo 37 = .ok (.iload_n 1, 1) := by decide +kernel
theorem dX1_stepsTo_38 : decode cX1_stepsTo 38 = .ok (.invokestatic 101, 3) := by decide +kernel
theorem dX1_stepsTo_41 : decode cX1_stepsTo 41 = .ok (.iload_n 1, 1) := by decide +kernel
theorem dX1_stepsTo_42 : decode cX1_stepsTo 42 = .ok (.iload_n 2, 1) := by decide +kernel
theorem dX1_stepsTo_43 : decode cX1_stepsTo 43 = .ok (.invokestatic 101, 3) := by decide +kernel
theorem dX1_stepsTo_46 : decode cX1_stepsTo 46 = .ok (.iadd, 1) := by decide +kernel
theorem dX1_stepsTo_47 : decode cX1_stepsTo 47 = .ok (.ireturn, 1) := by decide +kernel
theorem dX1_changeLimit_0 : decode cX1_changeLimit 0 = .ok (.iload_n 1, 1) := by decide +kernel
theorem dX1_changeLimit_1 : decode cX1_changeLimit 1 = .ok (.iconst 1, 1) := by decide +kernel
theorem dX1_changeLimit_2 : decode cX1_changeLimit 2 = .ok (.if_icmp .lt 10, 3) := by decide +kernel
theorem dX1_changeLimit_5 : decode cX1_changeLimit 5 = .ok (.iload_n 1, 1) := by decide +kernel
theorem dX1_changeLimit_6 : decode cX1_changeLimit 6 = .ok (.sipush 999, 3) := by decide +kernel
theorem dX1_changeLimit_9 : decode cX1_changeLimit 9 = .ok (.if_icmp .le 6, 3) := by decide +kernel
theorem dX1_changeLimit_12 : decode cX1_changeLimit 12 = .ok (.bipush (-2), 2) := by decide +kernel
theorem dX1_changeLimit_14 : decode cX1_changeLimit 14 = .ok (.ireturn, 1) := by decide +kernel
theorem dX1_changeLimit_15 : decode cX1_changeLimit 15 = .ok (.aload_n 0, 1) := by decide +kernel
theorem dX1_changeLimit_16 : decode cX1_changeLimit 16 = .ok (.getfield 9, 3) := by decide +kernel
theorem dX1_changeLimit_19 : decode cX1_changeLimit 19 = .ok (.istore_n 2, 1) := by decide +kernel
theorem dX1_changeLimit_20 : decode cX1_changeLimit 20 = .ok (.aload_n 0, 1) := by decide +kernel
theorem dX1_changeLimit_21 : decode cX1_changeLimit 21 = .ok (.iload_n 1, 1) := by decide +kernel
theorem dX1_changeLimit_22 : decode cX1_changeLimit 22 = .ok (.putfield 9, 3) := by decide +kernel
theorem dX1_changeLimit_25 : decode cX1_changeLimit 25 = .ok (.iload_n 2, 1) := by decide +kernel
theorem dX1_changeLimit_26 : decode cX1_changeLimit 26 = .ok (.iload_n 1, 1) := by decide +kernel
theorem dX1_changeLimit_27 : decode cX1_changeLimit 27 = .ok (.if_icmp .ne 8, 3) := by decide +kernel
theorem dX1_changeLimit_30 : decode cX1_changeLimit 30 = .ok (.bipush (-5), 2) := by decide +kernel
theorem dX1_changeLimit_32 : decode cX1_changeLimit 32 = .ok (.goto 4, 3) := by decide +kernel
theorem dX1_changeLimit_35 : decode cX1_changeLimit 35 = .ok (.iload_n 2, 1) := by decide +kernel
theorem dX1_changeLimit_36 : decode cX1_changeLimit 36 = .ok (.ireturn, 1) := by decide +kernel
theorem dX1_readAt_0 : decode cX1_readAt 0 = .ok (.aload_n 0, 1) := by decide +kernel
theorem dX1_readAt_1 : decode cX1_readAt 1 = .ok (.iload_n 1, 1) := by decide +kernel
theorem dX1_readAt_2 : decode cX1_readAt 2 = .ok (.invokevirtual 69, 3) := by decide +kernel
theorem dX1_readAt_5 : decode cX1_readAt 5 = .ok (.ifCond .ne 5, 3) := by decide +kernel
theorem dX1_readAt_8 : decode cX1_readAt 8 = .ok (.iconst (-1), 1) := by decide +kernel
theorem dX1_readAt_9 : decode cX1_readAt 9 = .ok (.ireturn, 1) := by decide +kernel
theorem dX1_readAt_10 : decode cX1_readAt 10 = .ok (.aload_n 0, 1) := by decide +kernel
theorem dX1_readAt_11 : decode cX1_readAt 11 = .ok (.iload_n 1, 1) := by decide +kernel
theorem dX1_readAt_12 : decode cX1_readAt 12 = .ok (.invokevirtual 83, 3) := by decide +kernel
theorem dX1_readAt_15 : decode cX1_readAt 15 = .ok (.ifCond .eq 6, 3) := by decide +kernel
theorem dX1_readAt_18 : decode cX1_readAt 18 = .ok (.bipush (-4), 2) := by decide +kernel
theorem dX1_readAt_20 : decode cX1_readAt 20 = .ok (.ireturn, 1) := by decide +kernel
theorem dX1_readAt_21 : decode cX1_readAt 21 = .ok (.aload_n 0, 1) := by decide +kernel
theorem dX1_readAt_22 : decode cX1_readAt 22 = .ok (.iload_n 1, 1) := by decide +kernel
theorem dX1_readAt_23 : decode cX1_readAt 23 = .ok (.invokevirtual 108, 3) := by decide +kernel
theorem dX1_readAt_26 : decode cX1_readAt 26 = .ok (.aload_n 0, 1) := by decide +kernel
theorem dX1_readAt_27 : decode cX1_readAt 27 = .ok (.aload_n 0, 1) := by decide +kernel
theorem dX1_readAt_28 : decode cX1_readAt 28 = .ok (.getfield 35, 3) := by decide +kernel
theorem dX1_readAt_31 : decode cX1_readAt 31 = .ok (.iload_n 1, 1) := by decide +kernel
theorem dX1_readAt_32 : decode cX1_readAt 32 = .ok (.iaload, 1) := by decide +kernel
theorem dX1_readAt_33 : decode cX1_readAt 33 = .ok (.invokevirtual 112, 3) := by decide +kernel
theorem dX1_readAt_36 : decode cX1_readAt 36 = .ok (.aload_n 0, 1) := by decide +kernel
theorem dX1_readAt_37 : decode cX1_readAt 37 = .ok (.dup, 1) := by decide +kernel
theorem dX1_readAt_38 : decode cX1_readAt 38 = .ok (.getfield 53, 3) := by decide +kernel
theorem dX1_readAt_41 : decode cX1_readAt 41 = .ok (.iconst 1, 1) := by decide +kernel
theorem dX1_readAt_42 : decode cX1_readAt 42 = .ok (.iadd, 1) := by decide +kernel
theorem dX1_readAt_43 : decode cX1_readAt 43 = .ok (.putfield 53, 3) := by decide +kernel
theorem dX1_readAt_46 : decode cX1_readAt 46 = .ok (.aload_n 0, 1) := by decide +kernel
theorem dX1_readAt_47 : decode cX1_readAt 47 = .ok (.iload_n 1, 1) := by decide +kernel
theorem dX1_readAt_48 : decode cX1_readAt 48 = .ok (.invokevirtual 115, 3) := by decide +kernel
theorem dX1_readAt_51 : decode cX1_readAt 51 = .ok (.aload_n 0, 1) := by decide +kernel
theorem dX1_readAt_52 : decode cX1_readAt 52 = .ok (.getfield 29, 3) := by decide +kernel
theorem dX1_readAt_55 : decode cX1_readAt 55 = .ok (.iload_n 1, 1) := by decide +kernel
theorem dX1_readAt_56 : decode cX1_readAt 56 = .ok (.iaload, 1) := by decide +kernel
theorem dX1_readAt_57 : decode cX1_readAt 57 = .ok (.ireturn, 1) := by decide +kernel
theorem dX1_writeAt_0 : decode cX1_writeAt 0 = .ok (.aload_n 0, 1) := by decide +kernel
theorem dX1_writeAt_1 : decode cX1_writeAt 1 = .ok (.iload_n 1, 1) := by decide +kernel
theorem dX1_writeAt_2 : decode cX1_writeAt 2 = .ok (.invokevirtual 69, 3) := by decide +kernel
theorem dX1_writeAt_5 : decode cX1_writeAt 5 = .ok (.ifCond .ne 5, 3) := by decide +kernel
theorem dX1_writeAt_8 : decode cX1_writeAt 8 = .ok (.iconst (-1), 1) := by decide +kernel
theorem dX1_writeAt_9 : decode cX1_writeAt 9 = .ok (.ireturn, 1) := by decide +kernel
theorem dX1_writeAt_10 : decode cX1_writeAt 10 = .ok (.iload_n 2, 1) := by decide +kernel
theorem dX1_writeAt_11 : decode cX1_writeAt 11 = .ok (.ifCond .lt 10, 3) := by decide +kernel
theorem dX1_writeAt_14 : decode cX1_writeAt 14 = .ok (.iload_n 2, 1) := by decide +kernel
theorem dX1_writeAt_15 : decode cX1_writeAt 15 = .ok (.sipush 999, 3) := by decide +kernel
theorem dX1_writeAt_18 : decode cX1_writeAt 18 = .ok (.if_icmp .le 6, 3) := by decide +kernel
theorem dX1_writeAt_21 : decode cX1_writeAt 21 = .ok (.bipush (-2), 2) := by decide +kernel
theorem dX1_writeAt_23 : decode cX1_writeAt 23 = .ok (.ireturn, 1) := by decide +kernel
theorem dX1_writeAt_24 : decode cX1_writeAt 24 = .ok (.aload_n 0, 1) := by decide +kernel
theorem dX1_writeAt_25 : decode cX1_writeAt 25 = .ok (.iload_n 1, 1) := by decide +kernel
theorem dX1_writeAt_26 : decode cX1_writeAt 26 = .ok (.invokevirtual 83, 3) := by decide +kernel
theorem dX1_writeAt_29 : decode cX1_writeAt 29 = .ok (.ifCond .eq 24, 3) := by decide +kernel
theorem dX1_writeAt_32 : decode cX1_writeAt 32 = .ok (.aload_n 0, 1) := by decide +kernel
theorem dX1_writeAt_33 : decode cX1_writeAt 33 = .ok (.iload_n 1, 1) := by decide +kernel
theorem dX1_writeAt_34 : decode cX1_writeAt 34 = .ok (.invokevirtual 118, 3) := by decide +kernel
theorem dX1_writeAt_37 : decode cX1_writeAt 37 = .ok (.istore_n 3, 1) := by decide +kernel
theorem dX1_writeAt_38 : decode cX1_writeAt 38 = .ok (.iload_n 3, 1) := by decide +kernel
theorem dX1_writeAt_39 : decode cX1_writeAt 39 = .ok (.bipush (-5), 2) := by decide +kernel
theorem dX1_writeAt_41 : decode cX1_writeAt 41 = .ok (.if_icmp .ne 6, 3) := by decide +kernel
theorem dX1_writeAt_44 : decode cX1_writeAt 44 = .ok (.bipush (-4), 2) := by decide +kernel
theorem dX1_writeAt_46 : decode cX1_writeAt 46 = .ok (.ireturn, 1) := by decide +kernel
theorem dX1_writeAt_47 : decode cX1_writeAt 47 = .ok (.aload_n 0, 1) := by decide +kernel
theorem dX1_writeAt_48 : decode cX1_writeAt 48 = .ok (.iload_n 1, 1) := by decide +kernel
theorem dX1_writeAt_49 : decode cX1_writeAt 49 = .ok (.iload_n 3, 1) := by decide +kernel
theorem dX1_writeAt_50 : decode cX1_writeAt 50 = .ok (.invokevirtual 121, 3) := by decide +kernel
theorem dX1_writeAt_53 : decode cX1_writeAt 53 = .ok (.aload_n 0, 1) := by decide +kernel
theorem dX1_writeAt_54 : decode cX1_writeAt 54 = .ok (.iload_n 1, 1) := by decide +kernel
theorem dX1_writeAt_55 : decode cX1_writeAt 55 = .ok (.invokevirtual 108, 3) := by decide +kernel
theorem dX1_writeAt_58 : decode cX1_writeAt 58 = .ok (.aload_n 0, 1) := by decide +kernel
theorem dX1_writeAt_59 : decode cX1_writeAt 59 = .ok (.aload_n 0, 1) := by decide +kernel
theorem dX1_writeAt_60 : decode cX1_writeAt 60 = .ok (.getfield 35, 3) := by decide +kernel
theorem dX1_writeAt_63 : decode cX1_writeAt 63 = .ok (.iload_n 1, 1) := by decide +kernel
theorem dX1_writeAt_64 : decode cX1_writeAt 64 = .ok (.iaload, 1) := by decide +kernel
theorem dX1_writeAt_65 : decode cX1_writeAt 65 = .ok (.invokevirtual 124, 3) := by decide +kernel
theorem dX1_writeAt_68 : decode cX1_writeAt 68 = .ok (.aload_n 0, 1) := by decide +kernel
theorem dX1_writeAt_69 : decode cX1_writeAt 69 = .ok (.getfield 29, 3) := by decide +kernel
theorem dX1_writeAt_72 : decode cX1_writeAt 72 = .ok (.iload_n 1, 1) := by decide +kernel
theorem dX1_writeAt_73 : decode cX1_writeAt 73 = .ok (.iload_n 2, 1) := by decide +kernel
theorem dX1_writeAt_74 : decode cX1_writeAt 74 = .ok (.iastore, 1) := by decide +kernel
theorem dX1_writeAt_75 : decode cX1_writeAt 75 = .ok (.aload_n 0, 1) := by decide +kernel
theorem dX1_writeAt_76 : decode cX1_writeAt 76 = .ok (.dup, 1) := by decide +kernel
theorem dX1_writeAt_77 : decode cX1_writeAt 77 = .ok (.getfield 56, 3) := by decide +kernel
theorem dX1_writeAt_80 : decode cX1_writeAt 80 = .ok (.iconst 1, 1) := by decide +kernel
theorem dX1_writeAt_81 : decode cX1_writeAt 81 = .ok (.iadd, 1) := by decide +kernel
theorem dX1_writeAt_82 : decode cX1_writeAt 82 = .ok (.putfield 56, 3) := by decide +kernel
theorem dX1_writeAt_85 : decode cX1_writeAt 85 = .ok (.aload_n 0, 1) := by decide +kernel
theorem dX1_writeAt_86 : decode cX1_writeAt 86 = .ok (.iload_n 1, 1) := by decide +kernel
theorem dX1_writeAt_87 : decode cX1_writeAt 87 = .ok (.invokevirtual 115, 3) := by decide +kernel
theorem dX1_writeAt_90 : decode cX1_writeAt 90 = .ok (.aload_n 0, 1) := by decide +kernel
theorem dX1_writeAt_91 : decode cX1_writeAt 91 = .ok (.iload_n 1, 1) := by decide +kernel
theorem dX1_writeAt_92 : decode cX1_writeAt 92 = .ok (.invokevirtual 83, 3) := by decide +kernel
theorem dX1_writeAt_95 : decode cX1_writeAt 95 = .ok (.ifCond .eq 8, 3) := by decide +kernel
theorem dX1_writeAt_98 : decode cX1_writeAt 98 = .ok (.bipush 100, 2) := by decide +kernel
theorem dX1_writeAt_100 : decode cX1_writeAt 100 = .ok (.goto 9, 3) := by decide +kernel
theorem dX1_writeAt_103 : decode cX1_writeAt 103 = .ok (.aload_n 0, 1) := by decide +kernel
theorem dX1_writeAt_104 : decode cX1_writeAt 104 = .ok (.getfield 35, 3) := by decide +kernel
theorem dX1_writeAt_107 : decode cX1_writeAt 107 = .ok (.iload_n 1, 1) := by decide +kernel
theorem dX1_writeAt_108 : decode cX1_writeAt 108 = .ok (.iaload, 1) := by decide +kernel
theorem dX1_writeAt_109 : decode cX1_writeAt 109 = .ok (.ireturn, 1) := by decide +kernel
theorem dX1_copyRow_0 : decode cX1_copyRow 0 = .ok (.iconst 0, 1) := by decide +kernel
theorem dX1_copyRow_1 : decode cX1_copyRow 1 = .ok (.istore 4, 2) := by decide +kernel
theorem dX1_copyRow_3 : decode cX1_copyRow 3 = .ok (.iload 4, 2) := by decide +kernel
theorem dX1_copyRow_5 : decode cX1_copyRow 5 = .ok (.iload_n 3, 1) := by decide +kernel
theorem dX1_copyRow_6 : decode cX1_copyRow 6 = .ok (.if_icmp .ge 40, 3) := by decide +kernel
theorem dX1_copyRow_9 : decode cX1_copyRow 9 = .ok (.aload_n 0, 1) := by decide +kernel
theorem dX1_copyRow_10 : decode cX1_copyRow 10 = .ok (.iload_n 1, 1) := by decide +kernel
theorem dX1_copyRow_11 : decode cX1_copyRow 11 = .ok (.iload 4, 2) := by decide +kernel
theorem dX1_copyRow_13 : decode cX1_copyRow 13 = .ok (.iadd, 1) := by decide +kernel
theorem dX1_copyRow_14 : decode cX1_copyRow 14 = .ok (.invokevirtual 127, 3) := by decide +kernel
theorem dX1_copyRow_17 : decode cX1_copyRow 17 = .ok (.istore 5, 2) := by decide +kernel
theorem dX1_copyRow_19 : decode cX1_copyRow 19 = .ok (.iload 5, 2) := by decide +kernel
theorem dX1_copyRow_21 : decode cX1_copyRow 21 = .ok (.ifCond .lt 16, 3) := by decide +kernel
theorem dX1_copyRow_24 : decode cX1_copyRow 24 = .ok (.aload_n 0, 1) := by decide +kernel
theorem dX1_copyRow_25 : decode cX1_copyRow 25 = .ok (.iload_n 2, 1) := by decide +kernel
theorem dX1_copyRow_26 : decode cX1_copyRow 26 = .ok (.iload 4, 2) := by decide +kernel
theorem dX1_copyRow_28 : decode cX1_copyRow 28 = .ok (.iadd, 1) := by decide +kernel
theorem dX1_copyRow_29 : decode cX1_copyRow 29 = .ok (.iload 5, 2) := by decide +kernel
theorem dX1_copyRow_31 : decode cX1_copyRow 31 = .ok (.invokevirtual 130, 3) := by decide +kernel
theorem dX1_copyRow_34 : decode cX1_copyRow 34 = .ok (.ifCond .ge 6, 3) := by decide +kernel
theorem dX1_copyRow_37 : decode cX1_copyRow 37 = .ok (.iload 4, 2) := by decide +kernel
theorem dX1_copyRow_39 : decode cX1_copyRow 39 = .ok (.ireturn, 1) := by decide +kernel
theorem dX1_copyRow_40 : decode cX1_copyRow 40 = .ok (.iinc 4 1, 3) := by decide +kernel
theorem dX1_copyRow_43 : decode cX1_copyRow 43 = .ok (.goto (-40), 3) := by decide +kernel
theorem dX1_copyRow_46 : decode cX1_copyRow 46 = .ok (.iload_n 3, 1) := by decide +kernel
theorem dX1_copyRow_47 : decode cX1_copyRow 47 = .ok (.ireturn, 1) := by decide +kernel
theorem dX1_testHead_0 : decode cX1_testHead 0 = .ok (.aload_n 0, 1) := by decide +kernel
theorem dX1_testHead_1 : decode cX1_testHead 1 = .ok (.iload_n 1, 1) := by decide +kernel
theorem dX1_testHead_2 : decode cX1_testHead 2 = .ok (.invokevirtual 133, 3) := by decide +kernel
theorem dX1_testHead_5 : decode cX1_testHead 5 = .ok (.bipush 16, 2) := by decide +kernel
theorem dX1_testHead_7 : decode cX1_testHead 7 = .ok (.aload_n 0, 1) := by decide +kernel
theorem dX1_testHead_8 : decode cX1_testHead 8 = .ok (.getfield 19, 3) := by decide +kernel
theorem dX1_testHead_11 : decode cX1_testHead 11 = .ok (.iload_n 1, 1) := by decide +kernel
theorem dX1_testHead_12 : decode cX1_testHead 12 = .ok (.iaload, 1) := by decide +kernel
theorem dX1_testHead_13 : decode cX1_testHead 13 = .ok (.isub, 1) := by decide +kernel
theorem dX1_testHead_14 : decode cX1_testHead 14 = .ok (.if_icmp .ne 6, 3) := by decide +kernel
theorem dX1_testHead_17 : decode cX1_testHead 17 = .ok (.bipush (-5), 2) := by decide +kernel
theorem dX1_testHead_19 : decode cX1_testHead 19 = .ok (.ireturn, 1) := by decide +kernel
theorem dX1_testHead_20 : decode cX1_testHead 20 = .ok (.aload_n 0, 1) := by decide +kernel
theorem dX1_testHead_21 : decode cX1_testHead 21 = .ok (.getfield 47, 3) := by decide +kernel
theorem dX1_testHead_24 : decode cX1_testHead 24 = .ok (.istore_n 2, 1) := by decide +kernel
theorem dX1_testHead_25 : decode cX1_testHead 25 = .ok (.iconst 0, 1) := by decide +kernel
theorem dX1_testHead_26 : decode cX1_testHead 26 = .ok (.istore_n 3, 1) := by decide +kernel
theorem dX1_testHead_27 : decode cX1_testHead 27 = .ok (.iload_n 3, 1) := by decide +kernel
theorem dX1_testHead_28 : decode cX1_testHead 28 = .ok (.bipush 16, 2) := by decide +kernel
theorem dX1_testHead_30 : decode cX1_testHead 30 = .ok (.aload_n 0, 1) := by decide +kernel
theorem dX1_testHead_31 : decode cX1_testHead 31 = .ok (.getfield 19, 3) := by decide +kernel
theorem dX1_testHead_34 : decode cX1_testHead 34 = .ok (.iload_n 1, 1) := by decide +kernel
theorem dX1_testHead_35 : decode cX1_testHead 35 = .ok (.iaload, 1) := by decide +kernel
theorem dX1_testHead_36 : decode cX1_testHead 36 = .ok (.isub, 1) := by decide +kernel
theorem dX1_testHead_37 : decode cX1_testHead 37 = .ok (.if_icmp .ge 20, 3) := by decide +kernel
theorem dX1_testHead_40 : decode cX1_testHead 40 = .ok (.aload_n 0, 1) := by decide +kernel
theorem dX1_testHead_41 : decode cX1_testHead 41 = .ok (.iload_n 1, 1) := by decide +kernel
theorem dX1_testHead_42 : decode cX1_testHead 42 = .ok (.bipush 16, 2) := by decide +kernel
theorem dX1_testHead_44 : decode cX1_testHead 44 = .ok (.imul, 1) := by decide +kernel
theorem dX1_testHead_45 : decode cX1_testHead 45 = .ok (.iload_n 3, 1) := by decide +kernel
theorem dX1_testHead_46 : decode cX1_testHead 46 = .ok (.iadd, 1) := by decide +kernel
theorem dX1_testHead_47 : decode cX1_testHead 47 = .ok (.invokevirtual 127, 3) := by decide +kernel
theorem dX1_testHead_50 : decode cX1_testHead 50 = .ok (.pop, 1) := by decide +kernel
theorem dX1_testHead_51 : decode cX1_testHead 51 = .ok (.iinc 3 1, 3) := by decide +kernel
theorem dX1_testHead_54 : decode cX1_testHead 54 = .ok (.goto (-27), 3) := by decide +kernel
theorem dX1_testHead_57 : decode cX1_testHead 57 = .ok (.aload_n 0, 1) := by decide +kernel
theorem dX1_testHead_58 : decode cX1_testHead 58 = .ok (.getfield 47, 3) := by decide +kernel
theorem dX1_testHead_61 : decode cX1_testHead 61 = .ok (.iload_n 2, 1) := by decide +kernel
theorem dX1_testHead_62 : decode cX1_testHead 62 = .ok (.isub, 1) := by decide +kernel
theorem dX1_testHead_63 : decode cX1_testHead 63 = .ok (.ireturn, 1) := by decide +kernel
theorem dX1_lookAt_0 : decode cX1_lookAt 0 = .ok (.aload_n 0, 1) := by decide +kernel
theorem dX1_lookAt_1 : decode cX1_lookAt 1 = .ok (.getfield 35, 3) := by decide +kernel
theorem dX1_lookAt_4 : decode cX1_lookAt 4 = .ok (.iload_n 1, 1) := by decide +kernel
theorem dX1_lookAt_5 : decode cX1_lookAt 5 = .ok (.iaload, 1) := by decide +kernel
theorem dX1_lookAt_6 : decode cX1_lookAt 6 = .ok (.istore_n 2, 1) := by decide +kernel
theorem dX1_lookAt_7 : decode cX1_lookAt 7 = .ok (.aload_n 0, 1) := by decide +kernel
theorem dX1_lookAt_8 : decode cX1_lookAt 8 = .ok (.iload_n 2, 1) := by decide +kernel
theorem dX1_lookAt_9 : decode cX1_lookAt 9 = .ok (.invokevirtual 86, 3) := by decide +kernel
theorem dX1_lookAt_12 : decode cX1_lookAt 12 = .ok (.ifCond .eq 4, 3) := by decide +kernel
theorem dX1_lookAt_15 : decode cX1_lookAt 15 = .ok (.return_, 1) := by decide +kernel
theorem dX1_lookAt_16 : decode cX1_lookAt 16 = .ok (.aload_n 0, 1) := by decide +kernel
theorem dX1_lookAt_17 : decode cX1_lookAt 17 = .ok (.iload_n 1, 1) := by decide +kernel
theorem dX1_lookAt_18 : decode cX1_lookAt 18 = .ok (.invokevirtual 118, 3) := by decide +kernel
theorem dX1_lookAt_21 : decode cX1_lookAt 21 = .ok (.istore_n 3, 1) := by decide +kernel
theorem dX1_lookAt_22 : decode cX1_lookAt 22 = .ok (.iload_n 3, 1) := by decide +kernel
theorem dX1_lookAt_23 : decode cX1_lookAt 23 = .ok (.bipush (-5), 2) := by decide +kernel
theorem dX1_lookAt_25 : decode cX1_lookAt 25 = .ok (.if_icmp .eq 42, 3) := by decide +kernel
theorem dX1_lookAt_28 : decode cX1_lookAt 28 = .ok (.aload_n 0, 1) := by decide +kernel
theorem dX1_lookAt_29 : decode cX1_lookAt 29 = .ok (.iload_n 1, 1) := by decide +kernel
theorem dX1_lookAt_30 : decode cX1_lookAt 30 = .ok (.iload_n 3, 1) := by decide +kernel
theorem dX1_lookAt_31 : decode cX1_lookAt 31 = .ok (.invokevirtual 121, 3) := by decide +kernel
theorem dX1_lookAt_34 : decode cX1_lookAt 34 = .ok (.aload_n 0, 1) := by decide +kernel
theorem dX1_lookAt_35 : decode cX1_lookAt 35 = .ok (.iload_n 3, 1) := by decide +kernel
theorem dX1_lookAt_36 : decode cX1_lookAt 36 = .ok (.invokevirtual 136, 3) := by decide +kernel
theorem dX1_lookAt_39 : decode cX1_lookAt 39 = .ok (.aload_n 0, 1) := by decide +kernel
theorem dX1_lookAt_40 : decode cX1_lookAt 40 = .ok (.iload_n 3, 1) := by decide +kernel
theorem dX1_lookAt_41 : decode cX1_lookAt 41 = .ok (.invokevirtual 124, 3) := by decide +kernel
theorem dX1_lookAt_44 : decode cX1_lookAt 44 = .ok (.aload_n 0, 1) := by decide +kernel
theorem dX1_lookAt_45 : decode cX1_lookAt 45 = .ok (.dup, 1) := by decide +kernel
theorem dX1_lookAt_46 : decode cX1_lookAt 46 = .ok (.getfield 47, 3) := by decide +kernel
theorem dX1_lookAt_49 : decode cX1_lookAt 49 = .ok (.iconst 1, 1) := by decide +kernel
theorem dX1_lookAt_50 : decode cX1_lookAt 50 = .ok (.iadd, 1) := by decide +kernel
theorem dX1_lookAt_51 : decode cX1_lookAt 51 = .ok (.putfield 47, 3) := by decide +kernel
theorem dX1_lookAt_54 : decode cX1_lookAt 54 = .ok (.aload_n 0, 1) := by decide +kernel
theorem dX1_lookAt_55 : decode cX1_lookAt 55 = .ok (.getfield 32, 3) := by decide +kernel
theorem dX1_lookAt_58 : decode cX1_lookAt 58 = .ok (.iload_n 1, 1) := by decide +kernel
theorem dX1_lookAt_59 : decode cX1_lookAt 59 = .ok (.dup2, 1) := by decide +kernel
theorem dX1_lookAt_60 : decode cX1_lookAt 60 = .ok (.iaload, 1) := by decide +kernel
theorem dX1_lookAt_61 : decode cX1_lookAt 61 = .ok (.iconst 1, 1) := by decide +kernel
theorem dX1_lookAt_62 : decode cX1_lookAt 62 = .ok (.iadd, 1) := by decide +kernel
theorem dX1_lookAt_63 : decode cX1_lookAt 63 = .ok (.iastore, 1) := by decide +kernel
theorem dX1_lookAt_64 : decode cX1_lookAt 64 = .ok (.goto 16, 3) := by decide +kernel
theorem dX1_lookAt_67 : decode cX1_lookAt 67 = .ok (.aload_n 0, 1) := by decide +kernel
theorem dX1_lookAt_68 : decode cX1_lookAt 68 = .ok (.iload_n 2, 1) := by decide +kernel
theorem dX1_lookAt_69 : decode cX1_lookAt 69 = .ok (.invokevirtual 89, 3) := by decide +kernel
theorem dX1_lookAt_72 : decode cX1_lookAt 72 = .ok (.ifCond .eq 8, 3) := by decide +kernel
theorem dX1_lookAt_75 : decode cX1_lookAt 75 = .ok (.aload_n 0, 1) := by decide +kernel
theorem dX1_lookAt_76 : decode cX1_lookAt 76 = .ok (.iload_n 1, 1) := by decide +kernel
theorem dX1_lookAt_77 : decode cX1_lookAt 77 = .ok (.invokevirtual 139, 3) := by decide +kernel
theorem dX1_lookAt_80 : decode cX1_lookAt 80 = .ok (.return_, 1) := by decide +kernel
theorem dX1_lend_0 : decode cX1_lend 0 = .ok (.aload_n 0, 1) := by decide +kernel
theorem dX1_lend_1 : decode cX1_lend 1 = .ok (.iload_n 1, 1) := by decide +kernel
theorem dX1_lend_2 : decode cX1_lend 2 = .ok (.invokevirtual 142, 3) := by decide +kernel
theorem dX1_lend_5 : decode cX1_lend 5 = .ok (.aload_n 0, 1) := by decide +kernel
theorem dX1_lend_6 : decode cX1_lend 6 = .ok (.getfield 35, 3) := by decide +kernel
theorem dX1_lend_9 : decode cX1_lend 9 = .ok (.iload_n 1, 1) := by decide +kernel
theorem dX1_lend_10 : decode cX1_lend 10 = .ok (.iload_n 2, 1) := by decide +kernel
theorem dX1_lend_11 : decode cX1_lend 11 = .ok (.iastore, 1) := by decide +kernel
theorem dX1_lend_12 : decode cX1_lend 12 = .ok (.aload_n 0, 1) := by decide +kernel
theorem dX1_lend_13 : decode cX1_lend 13 = .ok (.getfield 38, 3) := by decide +kernel
theorem dX1_lend_16 : decode cX1_lend 16 = .ok (.iload_n 2, 1) := by decide +kernel
theorem dX1_lend_17 : decode cX1_lend 17 = .ok (.iload_n 1, 1) := by decide +kernel
theorem dX1_lend_18 : decode cX1_lend 18 = .ok (.iastore, 1) := by decide +kernel
theorem dX1_lend_19 : decode cX1_lend 19 = .ok (.return_, 1) := by decide +kernel
theorem dX1_lose_0 : decode cX1_lose 0 = .ok (.aload_n 0, 1) := by decide +kernel
theorem dX1_lose_1 : decode cX1_lose 1 = .ok (.iload_n 1, 1) := by decide +kernel
theorem dX1_lose_2 : decode cX1_lose 2 = .ok (.invokevirtual 142, 3) := by decide +kernel
theorem dX1_lose_5 : decode cX1_lose 5 = .ok (.aload_n 0, 1) := by decide +kernel
theorem dX1_lose_6 : decode cX1_lose 6 = .ok (.dup, 1) := by decide +kernel
theorem dX1_lose_7 : decode cX1_lose 7 = .ok (.getfield 50, 3) := by decide +kernel
theorem dX1_lose_10 : decode cX1_lose 10 = .ok (.iconst 1, 1) := by decide +kernel
theorem dX1_lose_11 : decode cX1_lose 11 = .ok (.iadd, 1) := by decide +kernel
theorem dX1_lose_12 : decode cX1_lose 12 = .ok (.putfield 50, 3) := by decide +kernel
theorem dX1_lose_15 : decode cX1_lose 15 = .ok (.return_, 1) := by decide +kernel
theorem dX1_release_0 : decode cX1_release 0 = .ok (.aload_n 0, 1) := by decide +kernel
theorem dX1_release_1 : decode cX1_release 1 = .ok (.iload_n 1, 1) := by decide +kernel
theorem dX1_release_2 : decode cX1_release 2 = .ok (.invokevirtual 83, 3) := by decide +kernel
theorem dX1_release_5 : decode cX1_release 5 = .ok (.ifCond .ne 16, 3) := by decide +kernel
theorem dX1_release_8 : decode cX1_release 8 = .ok (.aload_n 0, 1) := by decide +kernel
theorem dX1_release_9 : decode cX1_release 9 = .ok (.getfield 38, 3) := by decide +kernel
theorem dX1_release_12 : decode cX1_release 12 = .ok (.aload_n 0, 1) := by decide +kernel
theorem dX1_release_13 : decode cX1_release 13 = .ok (.getfield 35, 3) := by decide +kernel
theorem dX1_release_16 : decode cX1_release 16 = .ok (.iload_n 1, 1) := by decide +kernel
theorem dX1_release_17 : decode cX1_release 17 = .ok (.iaload, 1) := by decide +kernel
theorem dX1_release_18 : decode cX1_release 18 = .ok (.bipush (-5), 2) := by decide +kernel
theorem dX1_release_20 : decode cX1_release 20 = .ok (.iastore, 1) := by decide +kernel
theorem dX1_release_21 : decode cX1_release 21 = .ok (.aload_n 0, 1) := by decide +kernel
theorem dX1_release_22 : decode cX1_release 22 = .ok (.getfield 35, 3) := by decide +kernel
theorem dX1_release_25 : decode cX1_release 25 = .ok (.iload_n 1, 1) := by decide +kernel
theorem dX1_release_26 : decode cX1_release 26 = .ok (.bipush (-5), 2) := by decide +kernel
theorem dX1_release_28 : decode cX1_release 28 = .ok (.iastore, 1) := by decide +kernel
theorem dX1_release_29 : decode cX1_release 29 = .ok (.return_, 1) := by decide +kernel
theorem dX1_wearByReading_0 : decode cX1_wearByReading 0 = .ok (.aload_n 0, 1) := by decide +kernel
theorem dX1_wearByReading_1 : decode cX1_wearByReading 1 = .ok (.getfield 26, 3) := by decide +kernel
theorem dX1_wearByReading_4 : decode cX1_wearByReading 4 = .ok (.iload_n 1, 1) := by decide +kernel
theorem dX1_wearByReading_5 : decode cX1_wearByReading 5 = .ok (.dup2, 1) := by decide +kernel
theorem dX1_wearByReading_6 : decode cX1_wearByReading 6 = .ok (.iaload, 1) := by decide +kernel
theorem dX1_wearByReading_7 : decode cX1_wearByReading 7 = .ok (.aload_n 0, 1) := by decide +kernel
theorem dX1_wearByReading_8 : decode cX1_wearByReading 8 = .ok (.getfield 15, 3) := by decide +kernel
theorem dX1_wearByReading_11 : decode cX1_wearByReading 11 = .ok (.iload_n 1, 1) := by decide +kernel
theorem dX1_wearByReading_12 : decode cX1_wearByReading 12 = .ok (.invokestatic 80, 3) := by decide +kernel
theorem dX1_wearByReading_15 : decode cX1_wearByReading 15 = .ok (.iaload, 1) := by decide +kernel
theorem dX1_wearByReading_16 : decode cX1_wearByReading 16 = .ok (.iadd, 1) := by decide +kernel
theorem dX1_wearByReading_17 : decode cX1_wearByReading 17 = .ok (.iastore, 1) := by decide +kernel
theorem dX1_wearByReading_18 : decode cX1_wearByReading 18 = .ok (.return_, 1) := by decide +kernel
theorem dX1_wearByWriting_0 : decode cX1_wearByWriting 0 = .ok (.aload_n 0, 1) := by decide +kernel
theorem dX1_wearByWriting_1 : decode cX1_wearByWriting 1 = .ok (.getfield 26, 3) := by decide +kernel
theorem dX1_wearByWriting_4 : decode cX1_wearByWriting 4 = .ok (.iload_n 1, 1) := by decide +kernel
theorem dX1_wearByWriting_5 : decode cX1_wearByWriting 5 = .ok (.dup2, 1) := by decide +kernel
theorem dX1_wearByWriting_6 : decode cX1_wearByWriting 6 = .ok (.iaload, 1) := by decide +kernel
theorem dX1_wearByWriting_7 : decode cX1_wearByWriting 7 = .ok (.iconst 2, 1) := by decide +kernel
theorem dX1_wearByWriting_8 : decode cX1_wearByWriting 8 = .ok (.aload_n 0, 1) := by decide +kernel
theorem dX1_wearByWriting_9 : decode cX1_wearByWriting 9 = .ok (.getfield 15, 3) := by decide +kernel
theorem dX1_wearByWriting_12 : decode cX1_wearByWriting 12 = .ok (.iload_n 1, 1) := by decide +kernel
theorem dX1_wearByWriting_13 : decode cX1_wearByWriting 13 = .ok (.invokestatic 80, 3) := by decide +kernel
theorem dX1_wearByWriting_16 : decode cX1_wearByWriting 16 = .ok (.iaload, 1) := by decide +kernel
theorem dX1_wearByWriting_17 : decode cX1_wearByWriting 17 = .ok (.imul, 1) := by decide +kernel
theorem dX1_wearByWriting_18 : decode cX1_wearByWriting 18 = .ok (.iadd, 1) := by decide +kernel
theorem dX1_wearByWriting_19 : decode cX1_wearByWriting 19 = .ok (.iastore, 1) := by decide +kernel
theorem dX1_wearByWriting_20 : decode cX1_wearByWriting 20 = .ok (.return_, 1) := by decide +kernel
theorem dX1_goTo_0 : decode cX1_goTo 0 = .ok (.aload_n 0, 1) := by decide +kernel
theorem dX1_goTo_1 : decode cX1_goTo 1 = .ok (.dup, 1) := by decide +kernel
theorem dX1_goTo_2 : decode cX1_goTo 2 = .ok (.getfield 44, 3) := by decide +kernel
theorem dX1_goTo_5 : decode cX1_goTo 5 = .ok (.aload_n 0, 1) := by decide +kernel
theorem dX1_goTo_6 : decode cX1_goTo 6 = .ok (.iload_n 1, 1) := by decide +kernel
theorem dX1_goTo_7 : decode cX1_goTo 7 = .ok (.invokevirtual 145, 3) := by decide +kernel
theorem dX1_goTo_10 : decode cX1_goTo 10 = .ok (.iadd, 1) := by decide +kernel
theorem dX1_goTo_11 : decode cX1_goTo 11 = .ok (.putfield 44, 3) := by decide +kernel
theorem dX1_goTo_14 : decode cX1_goTo 14 = .ok (.aload_n 0, 1) := by decide +kernel
theorem dX1_goTo_15 : decode cX1_goTo 15 = .ok (.aload_n 0, 1) := by decide +kernel
theorem dX1_goTo_16 : decode cX1_goTo 16 = .ok (.getfield 35, 3) := by decide +kernel
theorem dX1_goTo_19 : decode cX1_goTo 19 = .ok (.iload_n 1, 1) := by decide +kernel
theorem dX1_goTo_20 : decode cX1_goTo 20 = .ok (.iaload, 1) := by decide +kernel
theorem dX1_goTo_21 : decode cX1_goTo 21 = .ok (.putfield 41, 3) := by decide +kernel
theorem dX1_goTo_24 : decode cX1_goTo 24 = .ok (.return_, 1) := by decide +kernel
theorem dX1_moveTo_0 : decode cX1_moveTo 0 = .ok (.aload_n 0, 1) := by decide +kernel
theorem dX1_moveTo_1 : decode cX1_moveTo 1 = .ok (.dup, 1) := by decide +kernel
theorem dX1_moveTo_2 : decode cX1_moveTo 2 = .ok (.getfield 44, 3) := by decide +kernel
theorem dX1_moveTo_5 : decode cX1_moveTo 5 = .ok (.aload_n 0, 1) := by decide +kernel
theorem dX1_moveTo_6 : decode cX1_moveTo 6 = .ok (.getfield 41, 3) := by decide +kernel
theorem dX1_moveTo_9 : decode cX1_moveTo 9 = .ok (.iload_n 1, 1) := by decide +kernel
theorem dX1_moveTo_10 : decode cX1_moveTo 10 = .ok (.invokestatic 101, 3) := by decide +kernel
theorem dX1_moveTo_13 : decode cX1_moveTo 13 = .ok (.iadd, 1) := by decide +kernel
theorem dX1_moveTo_14 : decode cX1_moveTo 14 = .ok (.putfield 44, 3) := by decide +kernel
theorem dX1_moveTo_17 : decode cX1_moveTo 17 = .ok (.aload_n 0, 1) := by decide +kernel
theorem dX1_moveTo_18 : decode cX1_moveTo 18 = .ok (.iload_n 1, 1) := by decide +kernel
theorem dX1_moveTo_19 : decode cX1_moveTo 19 = .ok (.putfield 41, 3) := by decide +kernel
theorem dX1_moveTo_22 : decode cX1_moveTo 22 = .ok (.return_, 1) := by decide +kernel
theorem dX1_giveBackAt_0 : decode cX1_giveBackAt 0 = .ok (.aload_n 0, 1) := by decide +kernel
theorem dX1_giveBackAt_1 : decode cX1_giveBackAt 1 = .ok (.iload_n 1, 1) := by decide +kernel
theorem dX1_giveBackAt_2 : decode cX1_giveBackAt 2 = .ok (.invokevirtual 69, 3) := by decide +kernel
theorem dX1_giveBackAt_5 : decode cX1_giveBackAt 5 = .ok (.ifCond .ne 5, 3) := by decide +kernel
theorem dX1_giveBackAt_8 : decode cX1_giveBackAt 8 = .ok (.iconst (-1), 1) := by decide +kernel
theorem dX1_giveBackAt_9 : decode cX1_giveBackAt 9 = .ok (.ireturn, 1) := by decide +kernel
theorem dX1_giveBackAt_10 : decode cX1_giveBackAt 10 = .ok (.aload_n 0, 1) := by decide +kernel
theorem dX1_giveBackAt_11 : decode cX1_giveBackAt 11 = .ok (.iload_n 1, 1) := by decide +kernel
theorem dX1_giveBackAt_12 : decode cX1_giveBackAt 12 = .ok (.invokevirtual 148, 3) := by decide +kernel
theorem dX1_giveBackAt_15 : decode cX1_giveBackAt 15 = .ok (.ifCond .ne 6, 3) := by decide +kernel
theorem dX1_giveBackAt_18 : decode cX1_giveBackAt 18 = .ok (.bipush (-5), 2) := by decide +kernel
theorem dX1_giveBackAt_20 : decode cX1_giveBackAt 20 = .ok (.ireturn, 1) := by decide +kernel
theorem dX1_giveBackAt_21 : decode cX1_giveBackAt 21 = .ok (.aload_n 0, 1) := by decide +kernel
theorem dX1_giveBackAt_22 : decode cX1_giveBackAt 22 = .ok (.iload_n 1, 1) := by decide +kernel
theorem dX1_giveBackAt_23 : decode cX1_giveBackAt 23 = .ok (.invokevirtual 86, 3) := by decide +kernel
theorem dX1_giveBackAt_26 : decode cX1_giveBackAt 26 = .ok (.ifCond .eq 15, 3) := by decide +kernel
theorem dX1_giveBackAt_29 : decode cX1_giveBackAt 29 = .ok (.aload_n 0, 1) := by decide +kernel
theorem dX1_giveBackAt_30 : decode cX1_giveBackAt 30 = .ok (.getfield 22, 3) := by decide +kernel
theorem dX1_giveBackAt_33 : decode cX1_giveBackAt 33 = .ok (.iload_n 1, 1) := by decide +kernel
theorem dX1_giveBackAt_34 : decode cX1_giveBackAt 34 = .ok (.invokestatic 80, 3) := by decide +kernel
theorem dX1_giveBackAt_37 : decode cX1_giveBackAt 37 = .ok (.baload, 1) := by decide +kernel
theorem dX1_giveBackAt_38 : decode cX1_giveBackAt 38 = .ok (.ifCond .eq 6, 3) := by decide +kernel
theorem dX1_giveBackAt_41 : decode cX1_giveBackAt 41 = .ok (.bipush (-4), 2) := by decide +kernel
theorem dX1_giveBackAt_43 : decode cX1_giveBackAt 43 = .ok (.ireturn, 1) := by decide +kernel
theorem dX1_giveBackAt_44 : decode cX1_giveBackAt 44 = .ok (.aload_n 0, 1) := by decide +kernel
theorem dX1_giveBackAt_45 : decode cX1_giveBackAt 45 = .ok (.getfield 35, 3) := by decide +kernel
theorem dX1_giveBackAt_48 : decode cX1_giveBackAt 48 = .ok (.iload_n 1, 1) := by decide +kernel
theorem dX1_giveBackAt_49 : decode cX1_giveBackAt 49 = .ok (.iaload, 1) := by decide +kernel
theorem dX1_giveBackAt_50 : decode cX1_giveBackAt 50 = .ok (.istore_n 2, 1) := by decide +kernel
theorem dX1_giveBackAt_51 : decode cX1_giveBackAt 51 = .ok (.aload_n 0, 1) := by decide +kernel
theorem dX1_giveBackAt_52 : decode cX1_giveBackAt 52 = .ok (.iload_n 1, 1) := by decide +kernel
theorem dX1_giveBackAt_53 : decode cX1_giveBackAt 53 = .ok (.invokevirtual 108, 3) := by decide +kernel
theorem dX1_giveBackAt_56 : decode cX1_giveBackAt 56 = .ok (.aload_n 0, 1) := by decide +kernel
theorem dX1_giveBackAt_57 : decode cX1_giveBackAt 57 = .ok (.iload_n 1, 1) := by decide +kernel
theorem dX1_giveBackAt_58 : decode cX1_giveBackAt 58 = .ok (.invokevirtual 136, 3) := by decide +kernel
theorem dX1_giveBackAt_61 : decode cX1_giveBackAt 61 = .ok (.aload_n 0, 1) := by decide +kernel
theorem dX1_giveBackAt_62 : decode cX1_giveBackAt 62 = .ok (.iload_n 1, 1) := by decide +kernel
theorem dX1_giveBackAt_63 : decode cX1_giveBackAt 63 = .ok (.invokevirtual 124, 3) := by decide +kernel
theorem dX1_giveBackAt_66 : decode cX1_giveBackAt 66 = .ok (.aload_n 0, 1) := by decide +kernel
theorem dX1_giveBackAt_67 : decode cX1_giveBackAt 67 = .ok (.iload_n 1, 1) := by decide +kernel
theorem dX1_giveBackAt_68 : decode cX1_giveBackAt 68 = .ok (.iload_n 1, 1) := by decide +kernel
theorem dX1_giveBackAt_69 : decode cX1_giveBackAt 69 = .ok (.invokevirtual 121, 3) := by decide +kernel
theorem dX1_giveBackAt_72 : decode cX1_giveBackAt 72 = .ok (.iload_n 2, 1) := by decide +kernel
theorem dX1_giveBackAt_73 : decode cX1_giveBackAt 73 = .ok (.ireturn, 1) := by decide +kernel
theorem dX1_vacate_0 : decode cX1_vacate 0 = .ok (.aload_n 0, 1) := by decide +kernel
theorem dX1_vacate_1 : decode cX1_vacate 1 = .ok (.getfield 50, 3) := by decide +kernel
theorem dX1_vacate_4 : decode cX1_vacate 4 = .ok (.istore_n 2, 1) := by decide +kernel
theorem dX1_vacate_5 : decode cX1_vacate 5 = .ok (.aload_n 0, 1) := by decide +kernel
theorem dX1_vacate_6 : decode cX1_vacate 6 = .ok (.getfield 22, 3) := by decide +kernel
theorem dX1_vacate_9 : decode cX1_vacate 9 = .ok (.iload_n 1, 1) := by decide +kernel
theorem dX1_vacate_10 : decode cX1_vacate 10 = .ok (.iconst 1, 1) := by decide +kernel
theorem dX1_vacate_11 : decode cX1_vacate 11 = .ok (.bastore, 1) := by decide +kernel
theorem dX1_vacate_12 : decode cX1_vacate 12 = .ok (.iconst 0, 1) := by decide +kernel
theorem dX1_vacate_13 : decode cX1_vacate 13 = .ok (.istore_n 3, 1) := by decide +kernel
theorem dX1_vacate_14 : decode cX1_vacate 14 = .ok (.iload_n 3, 1) := by decide +kernel
theorem dX1_vacate_15 : decode cX1_vacate 15 = .ok (.bipush 64, 2) := by decide +kernel
theorem dX1_vacate_17 : decode cX1_vacate 17 = .ok (.if_icmp .ge 43, 3) := by decide +kernel
theorem dX1_vacate_20 : decode cX1_vacate 20 = .ok (.aload_n 0, 1) := by decide +kernel
theorem dX1_vacate_21 : decode cX1_vacate 21 = .ok (.iload_n 3, 1) := by decide +kernel
theorem dX1_vacate_22 : decode cX1_vacate 22 = .ok (.invokevirtual 69, 3) := by decide +kernel
theorem dX1_vacate_25 : decode cX1_vacate 25 = .ok (.ifCond .eq 29, 3) := by decide +kernel
theorem dX1_vacate_28 : decode cX1_vacate 28 = .ok (.aload_n 0, 1) := by decide +kernel
theorem dX1_vacate_29 : decode cX1_vacate 29 = .ok (.iload_n 3, 1) := by decide +kernel
theorem dX1_vacate_30 : decode cX1_vacate 30 = .ok (.invokevirtual 83, 3) := by decide +kernel
theorem dX1_vacate_33 : decode cX1_vacate 33 = .ok (.ifCond .ne 21, 3) := by decide +kernel
theorem dX1_vacate_36 : decode cX1_vacate 36 = .ok (.aload_n 0, 1) := by decide +kernel
theorem dX1_vacate_37 : decode cX1_vacate 37 = .ok (.getfield 35, 3) := by decide +kernel
theorem dX1_vacate_40 : decode cX1_vacate 40 = .ok (.iload_n 3, 1) := by decide +kernel
theorem dX1_vacate_41 : decode cX1_vacate 41 = .ok (.iaload, 1) := by decide +kernel
theorem dX1_vacate_42 : decode cX1_vacate 42 = .ok (.invokestatic 80, 3) := by decide +kernel
theorem dX1_vacate_45 : decode cX1_vacate 45 = .ok (.iload_n 1, 1) := by decide +kernel
theorem dX1_vacate_46 : decode cX1_vacate 46 = .ok (.if_icmp .ne 8, 3) := by decide +kernel
theorem dX1_vacate_49 : decode cX1_vacate 49 = .ok (.aload_n 0, 1) := by decide +kernel
theorem dX1_vacate_50 : decode cX1_vacate 50 = .ok (.iload_n 3, 1) := by decide +kernel
theorem dX1_vacate_51 : decode cX1_vacate 51 = .ok (.invokevirtual 151, 3) := by decide +kernel
theorem dX1_vacate_54 : decode cX1_vacate 54 = .ok (.iinc 3 1, 3) := by decide +kernel
theorem dX1_vacate_57 : decode cX1_vacate 57 = .ok (.goto (-43), 3) := by decide +kernel
theorem dX1_vacate_60 : decode cX1_vacate 60 = .ok (.aload_n 0, 1) := by decide +kernel
theorem dX1_vacate_61 : decode cX1_vacate 61 = .ok (.getfield 50, 3) := by decide +kernel
theorem dX1_vacate_64 : decode cX1_vacate 64 = .ok (.iload_n 2, 1) := by decide +kernel
theorem dX1_vacate_65 : decode cX1_vacate 65 = .ok (.isub, 1) := by decide +kernel
theorem dX1_vacate_66 : decode cX1_vacate 66 = .ok (.ireturn, 1) := by decide +kernel
theorem dX1_moveAway_0 : decode cX1_moveAway 0 = .ok (.aload_n 0, 1) := by decide +kernel
theorem dX1_moveAway_1 : decode cX1_moveAway 1 = .ok (.iload_n 1, 1) := by decide +kernel
theorem dX1_moveAway_2 : decode cX1_moveAway 2 = .ok (.invokevirtual 118, 3) := by decide +kernel
theorem dX1_moveAway_5 : decode cX1_moveAway 5 = .ok (.istore_n 2, 1) := by decide +kernel
theorem dX1_moveAway_6 : decode cX1_moveAway 6 = .ok (.iload_n 2, 1) := by decide +kernel
theorem dX1_moveAway_7 : decode cX1_moveAway 7 = .ok (.bipush (-5), 2) := by decide +kernel
theorem dX1_moveAway_9 : decode cX1_moveAway 9 = .ok (.if_icmp .ne 11, 3) := by decide +kernel
theorem dX1_moveAway_12 : decode cX1_moveAway 12 = .ok (.aload_n 0, 1) := by decide +kernel
theorem dX1_moveAway_13 : decode cX1_moveAway 13 = .ok (.iload_n 1, 1) := by decide +kernel
theorem dX1_moveAway_14 : decode cX1_moveAway 14 = .ok (.invokevirtual 139, 3) := by decide +kernel
theorem dX1_moveAway_17 : decode cX1_moveAway 17 = .ok (.goto 14, 3) := by decide +kernel
theorem dX1_moveAway_20 : decode cX1_moveAway 20 = .ok (.aload_n 0, 1) := by decide +kernel
theorem dX1_moveAway_21 : decode cX1_moveAway 21 = .ok (.iload_n 1, 1) := by decide +kernel
theorem dX1_moveAway_22 : decode cX1_moveAway 22 = .ok (.iload_n 2, 1) := by decide +kernel
theorem dX1_moveAway_23 : decode cX1_moveAway 23 = .ok (.invokevirtual 121, 3) := by decide +kernel
theorem dX1_moveAway_26 : decode cX1_moveAway 26 = .ok (.aload_n 0, 1) := by decide +kernel
theorem dX1_moveAway_27 : decode cX1_moveAway 27 = .ok (.iload_n 2, 1) := by decide +kernel
theorem dX1_moveAway_28 : decode cX1_moveAway 28 = .ok (.invokevirtual 124, 3) := by decide +kernel
theorem dX1_moveAway_31 : decode cX1_moveAway 31 = .ok (.return_, 1) := by decide +kernel
theorem dX1_tellAddress_0 : decode cX1_tellAddress 0 = .ok (.iload_n 2, 1) := by decide +kernel
theorem dX1_tellAddress_1 : decode cX1_tellAddress 1 = .ok (.tableswitch 112 0 5 #[39, 59, 66, 80, 86, 105], 39) := by decide +kernel
theorem dX1_tellAddress_40 : decode cX1_tellAddress 40 = .ok (.aload_n 0, 1) := by decide +kernel
theorem dX1_tellAddress_41 : decode cX1_tellAddress 41 = .ok (.iload_n 1, 1) := by decide +kernel
theorem dX1_tellAddress_42 : decode cX1_tellAddress 42 = .ok (.invokevirtual 83, 3) := by decide +kernel
theorem dX1_tellAddress_45 : decode cX1_tellAddress 45 = .ok (.ifCond .eq 8, 3) := by decide +kernel
theorem dX1_tellAddress_48 : decode cX1_tellAddress 48 = .ok (.bipush (-5), 2) := by decide +kernel
theorem dX1_tellAddress_50 : decode cX1_tellAddress 50 = .ok (.goto 9, 3) := by decide +kernel
theorem dX1_tellAddress_53 : decode cX1_tellAddress 53 = .ok (.aload_n 0, 1) := by decide +kernel
theorem dX1_tellAddress_54 : decode cX1_tellAddress 54 = .ok (.getfield 29, 3) := by decide +kernel
theorem dX1_tellAddress_57 : decode cX1_tellAddress 57 = .ok (.iload_n 1, 1) := by decide +kernel
theorem dX1_tellAddress_58 : decode cX1_tellAddress 58 = .ok (.iaload, 1) := by decide +kernel
theorem dX1_tellAddress_59 : decode cX1_tellAddress 59 = .ok (.ireturn, 1) := by decide +kernel
theorem dX1_tellAddress_60 : decode cX1_tellAddress 60 = .ok (.aload_n 0, 1) := by decide +kernel
theorem dX1_tellAddress_61 : decode cX1_tellAddress 61 = .ok (.getfield 35, 3) := by decide +kernel
theorem dX1_tellAddress_64 : decode cX1_tellAddress 64 = .ok (.iload_n 1, 1) := by decide +kernel
theorem dX1_tellAddress_65 : decode cX1_tellAddress 65 = .ok (.iaload, 1) := by decide +kernel
theorem dX1_tellAddress_66 : decode cX1_tellAddress 66 = .ok (.ireturn, 1) := by decide +kernel
theorem dX1_tellAddress_67 : decode cX1_tellAddress 67 = .ok (.aload_n 0, 1) := by decide +kernel
theorem dX1_tellAddress_68 : decode cX1_tellAddress 68 = .ok (.iload_n 1, 1) := by decide +kernel
theorem dX1_tellAddress_69 : decode cX1_tellAddress 69 = .ok (.invokevirtual 148, 3) := by decide +kernel
theorem dX1_tellAddress_72 : decode cX1_tellAddress 72 = .ok (.ifCond .eq 7, 3) := by decide +kernel
theorem dX1_tellAddress_75 : decode cX1_tellAddress 75 = .ok (.iconst 1, 1) := by decide +kernel
theorem dX1_tellAddress_76 : decode cX1_tellAddress 76 = .ok (.goto 4, 3) := by decide +kernel
theorem dX1_tellAddress_79 : decode cX1_tellAddress 79 = .ok (.iconst 0, 1) := by decide +kernel
theorem dX1_tellAddress_80 : decode cX1_tellAddress 80 = .ok (.ireturn, 1) := by decide +kernel
theorem dX1_tellAddress_81 : decode cX1_tellAddress 81 = .ok (.aload_n 0, 1) := by decide +kernel
theorem dX1_tellAddress_82 : decode cX1_tellAddress 82 = .ok (.iload_n 1, 1) := by decide +kernel
theorem dX1_tellAddress_83 : decode cX1_tellAddress 83 = .ok (.invokevirtual 118, 3) := by decide +kernel
theorem dX1_tellAddress_86 : decode cX1_tellAddress 86 = .ok (.ireturn, 1) := by decide +kernel
theorem dX1_tellAddress_87 : decode cX1_tellAddress 87 = .ok (.aload_n 0, 1) := by decide +kernel
theorem dX1_tellAddress_88 : decode cX1_tellAddress 88 = .ok (.iload_n 1, 1) := by decide +kernel
theorem dX1_tellAddress_89 : decode cX1_tellAddress 89 = .ok (.invokevirtual 83, 3) := by decide +kernel
theorem dX1_tellAddress_92 : decode cX1_tellAddress 92 = .ok (.ifCond .eq 8, 3) := by decide +kernel
theorem dX1_tellAddress_95 : decode cX1_tellAddress 95 = .ok (.bipush (-5), 2) := by decide +kernel
theorem dX1_tellAddress_97 : decode cX1_tellAddress 97 = .ok (.goto 8, 3) := by decide +kernel
theorem dX1_tellAddress_100 : decode cX1_tellAddress 100 = .ok (.aload_n 0, 1) := by decide +kernel
theorem dX1_tellAddress_101 : decode cX1_tellAddress 101 = .ok (.iload_n 1, 1) := by decide +kernel
theorem dX1_tellAddress_102 : decode cX1_tellAddress 102 = .ok (.invokevirtual 145, 3) := by decide +kernel
theorem dX1_tellAddress_105 : decode cX1_tellAddress 105 = .ok (.ireturn, 1) := by decide +kernel
theorem dX1_tellAddress_106 : decode cX1_tellAddress 106 = .ok (.aload_n 0, 1) := by decide +kernel
theorem dX1_tellAddress_107 : decode cX1_tellAddress 107 = .ok (.getfield 32, 3) := by decide +kernel
theorem dX1_tellAddress_110 : decode cX1_tellAddress 110 = .ok (.iload_n 1, 1) := by decide +kernel
theorem dX1_tellAddress_111 : decode cX1_tellAddress 111 = .ok (.iaload, 1) := by decide +kernel
theorem dX1_tellAddress_112 : decode cX1_tellAddress 112 = .ok (.ireturn, 1) := by decide +kernel
theorem dX1_tellAddress_113 : decode cX1_tellAddress 113 = .ok (.bipush (-2), 2) := by decide +kernel
theorem dX1_tellAddress_115 : decode cX1_tellAddress 115 = .ok (.ireturn, 1) := by decide +kernel
theorem dX1_tellSector_0 : decode cX1_tellSector 0 = .ok (.iload_n 2, 1) := by decide +kernel
theorem dX1_tellSector_1 : decode cX1_tellSector 1 = .ok (.tableswitch 83 0 4 #[35, 42, 48, 62, 69], 35) := by decide +kernel
theorem dX1_tellSector_36 : decode cX1_tellSector 36 = .ok (.aload_n 0, 1) := by decide +kernel
theorem dX1_tellSector_37 : decode cX1_tellSector 37 = .ok (.getfield 26, 3) := by decide +kernel
theorem dX1_tellSector_40 : decode cX1_tellSector 40 = .ok (.iload_n 1, 1) := by decide +kernel
theorem dX1_tellSector_41 : decode cX1_tellSector 41 = .ok (.iaload, 1) := by decide +kernel
theorem dX1_tellSector_42 : decode cX1_tellSector 42 = .ok (.ireturn, 1) := by decide +kernel
theorem dX1_tellSector_43 : decode cX1_tellSector 43 = .ok (.aload_n 0, 1) := by decide +kernel
theorem dX1_tellSector_44 : decode cX1_tellSector 44 = .ok (.iload_n 1, 1) := by decide +kernel
theorem dX1_tellSector_45 : decode cX1_tellSector 45 = .ok (.invokevirtual 154, 3) := by decide +kernel
theorem dX1_tellSector_48 : decode cX1_tellSector 48 = .ok (.ireturn, 1) := by decide +kernel
theorem dX1_tellSector_49 : decode cX1_tellSector 49 = .ok (.aload_n 0, 1) := by decide +kernel
theorem dX1_tellSector_50 : decode cX1_tellSector 50 = .ok (.iload_n 1, 1) := by decide +kernel
