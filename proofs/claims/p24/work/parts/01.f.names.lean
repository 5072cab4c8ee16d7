theorem dX1_tellSector_51 : decode cX1_tellSector 51 = .ok (.invokevirtual 69, 3) := by decide +kernel
theorem dX1_tellSector_54 : decode cX1_tellSector 54 = .ok (.ifCond .eq 7, 3) := by decide +kernel
theorem dX1_tellSector_57 : decode cX1_tellSector 57 = .ok (.iconst 0, 1) := by decide +kernel
theorem dX1_tellSector_58 : decode cX1_tellSector 58 = .ok (.goto 4, 3) := by decide +kernel
theorem dX1_tellSector_61 : decode cX1_tellSector 61 = .ok (.iconst 1, 1) := by decide +kernel
theorem dX1_tellSector_62 : decode cX1_tellSector 62 = .ok (.ireturn, 1) := by decide +kernel
theorem dX1_tellSector_63 : decode cX1_tellSector 63 = .ok (.aload_n 0, 1) := by decide +kernel
theorem dX1_tellSector_64 : decode cX1_tellSector 64 = .ok (.getfield 38, 3) := by decide +kernel
theorem dX1_tellSector_67 : decode cX1_tellSector 67 = .ok (.iload_n 1, 1) := by decide +kernel
theorem dX1_tellSector_68 : decode cX1_tellSector 68 = .ok (.iaload, 1) := by decide +kernel
theorem dX1_tellSector_69 : decode cX1_tellSector 69 = .ok (.ireturn, 1) := by decide +kernel
theorem dX1_tellSector_70 : decode cX1_tellSector 70 = .ok (.aload_n 0, 1) := by decide +kernel
theorem dX1_tellSector_71 : decode cX1_tellSector 71 = .ok (.iload_n 1, 1) := by decide +kernel
theorem dX1_tellSector_72 : decode cX1_tellSector 72 = .ok (.invokevirtual 92, 3) := by decide +kernel
theorem dX1_tellSector_75 : decode cX1_tellSector 75 = .ok (.ifCond .eq 7, 3) := by decide +kernel
theorem dX1_tellSector_78 : decode cX1_tellSector 78 = .ok (.iconst 1, 1) := by decide +kernel
theorem dX1_tellSector_79 : decode cX1_tellSector 79 = .ok (.goto 4, 3) := by decide +kernel
theorem dX1_tellSector_82 : decode cX1_tellSector 82 = .ok (.iconst 0, 1) := by decide +kernel
theorem dX1_tellSector_83 : decode cX1_tellSector 83 = .ok (.ireturn, 1) := by decide +kernel
theorem dX1_tellSector_84 : decode cX1_tellSector 84 = .ok (.bipush (-2), 2) := by decide +kernel
theorem dX1_tellSector_86 : decode cX1_tellSector 86 = .ok (.ireturn, 1) := by decide +kernel
theorem dX1_tellHead_0 : decode cX1_tellHead 0 = .ok (.iload_n 2, 1) := by decide +kernel
theorem dX1_tellHead_1 : decode cX1_tellHead 1 = .ok (.tableswitch 136 0 9 #[55, 62, 69, 75, 90, 100, 110, 116, 122, 129], 55) := by decide +kernel
theorem dX1_tellHead_56 : decode cX1_tellHead 56 = .ok (.aload_n 0, 1) := by decide +kernel
theorem dX1_tellHead_57 : decode cX1_tellHead 57 = .ok (.getfield 15, 3) := by decide +kernel
theorem dX1_tellHead_60 : decode cX1_tellHead 60 = .ok (.iload_n 1, 1) := by decide +kernel
theorem dX1_tellHead_61 : decode cX1_tellHead 61 = .ok (.iaload, 1) := by decide +kernel
theorem dX1_tellHead_62 : decode cX1_tellHead 62 = .ok (.ireturn, 1) := by decide +kernel
theorem dX1_tellHead_63 : decode cX1_tellHead 63 = .ok (.aload_n 0, 1) := by decide +kernel
theorem dX1_tellHead_64 : decode cX1_tellHead 64 = .ok (.getfield 19, 3) := by decide +kernel
theorem dX1_tellHead_67 : decode cX1_tellHead 67 = .ok (.iload_n 1, 1) := by decide +kernel
theorem dX1_tellHead_68 : decode cX1_tellHead 68 = .ok (.iaload, 1) := by decide +kernel
theorem dX1_tellHead_69 : decode cX1_tellHead 69 = .ok (.ireturn, 1) := by decide +kernel
theorem dX1_tellHead_70 : decode cX1_tellHead 70 = .ok (.aload_n 0, 1) := by decide +kernel
theorem dX1_tellHead_71 : decode cX1_tellHead 71 = .ok (.iload_n 1, 1) := by decide +kernel
theorem dX1_tellHead_72 : decode cX1_tellHead 72 = .ok (.invokevirtual 98, 3) := by decide +kernel
theorem dX1_tellHead_75 : decode cX1_tellHead 75 = .ok (.ireturn, 1) := by decide +kernel
theorem dX1_tellHead_76 : decode cX1_tellHead 76 = .ok (.aload_n 0, 1) := by decide +kernel
theorem dX1_tellHead_77 : decode cX1_tellHead 77 = .ok (.getfield 22, 3) := by decide +kernel
theorem dX1_tellHead_80 : decode cX1_tellHead 80 = .ok (.iload_n 1, 1) := by decide +kernel
theorem dX1_tellHead_81 : decode cX1_tellHead 81 = .ok (.baload, 1) := by decide +kernel
theorem dX1_tellHead_82 : decode cX1_tellHead 82 = .ok (.ifCond .eq 7, 3) := by decide +kernel
theorem dX1_tellHead_85 : decode cX1_tellHead 85 = .ok (.iconst 1, 1) := by decide +kernel
theorem dX1_tellHead_86 : decode cX1_tellHead 86 = .ok (.goto 4, 3) := by decide +kernel
theorem dX1_tellHead_89 : decode cX1_tellHead 89 = .ok (.iconst 0, 1) := by decide +kernel
theorem dX1_tellHead_90 : decode cX1_tellHead 90 = .ok (.ireturn, 1) := by decide +kernel
theorem dX1_tellHead_91 : decode cX1_tellHead 91 = .ok (.aload_n 0, 1) := by decide +kernel
theorem dX1_tellHead_92 : decode cX1_tellHead 92 = .ok (.aload_n 0, 1) := by decide +kernel
theorem dX1_tellHead_93 : decode cX1_tellHead 93 = .ok (.getfield 38, 3) := by decide +kernel
theorem dX1_tellHead_96 : decode cX1_tellHead 96 = .ok (.iload_n 1, 1) := by decide +kernel
theorem dX1_tellHead_97 : decode cX1_tellHead 97 = .ok (.invokevirtual 157, 3) := by decide +kernel
theorem dX1_tellHead_100 : decode cX1_tellHead 100 = .ok (.ireturn, 1) := by decide +kernel
theorem dX1_tellHead_101 : decode cX1_tellHead 101 = .ok (.aload_n 0, 1) := by decide +kernel
theorem dX1_tellHead_102 : decode cX1_tellHead 102 = .ok (.aload_n 0, 1) := by decide +kernel
theorem dX1_tellHead_103 : decode cX1_tellHead 103 = .ok (.getfield 35, 3) := by decide +kernel
theorem dX1_tellHead_106 : decode cX1_tellHead 106 = .ok (.iload_n 1, 1) := by decide +kernel
theorem dX1_tellHead_107 : decode cX1_tellHead 107 = .ok (.invokevirtual 157, 3) := by decide +kernel
theorem dX1_tellHead_110 : decode cX1_tellHead 110 = .ok (.ireturn, 1) := by decide +kernel
theorem dX1_tellHead_111 : decode cX1_tellHead 111 = .ok (.aload_n 0, 1) := by decide +kernel
theorem dX1_tellHead_112 : decode cX1_tellHead 112 = .ok (.iload_n 1, 1) := by decide +kernel
theorem dX1_tellHead_113 : decode cX1_tellHead 113 = .ok (.invokevirtual 133, 3) := by decide +kernel
theorem dX1_tellHead_116 : decode cX1_tellHead 116 = .ok (.ireturn, 1) := by decide +kernel
theorem dX1_tellHead_117 : decode cX1_tellHead 117 = .ok (.aload_n 0, 1) := by decide +kernel
theorem dX1_tellHead_118 : decode cX1_tellHead 118 = .ok (.iload_n 1, 1) := by decide +kernel
theorem dX1_tellHead_119 : decode cX1_tellHead 119 = .ok (.invokevirtual 105, 3) := by decide +kernel
theorem dX1_tellHead_122 : decode cX1_tellHead 122 = .ok (.ireturn, 1) := by decide +kernel
theorem dX1_tellHead_123 : decode cX1_tellHead 123 = .ok (.aload_n 0, 1) := by decide +kernel
theorem dX1_tellHead_124 : decode cX1_tellHead 124 = .ok (.iload_n 1, 1) := by decide +kernel
theorem dX1_tellHead_125 : decode cX1_tellHead 125 = .ok (.iconst 1, 1) := by decide +kernel
theorem dX1_tellHead_126 : decode cX1_tellHead 126 = .ok (.invokevirtual 161, 3) := by decide +kernel
theorem dX1_tellHead_129 : decode cX1_tellHead 129 = .ok (.ireturn, 1) := by decide +kernel
theorem dX1_tellHead_130 : decode cX1_tellHead 130 = .ok (.aload_n 0, 1) := by decide +kernel
theorem dX1_tellHead_131 : decode cX1_tellHead 131 = .ok (.iload_n 1, 1) := by decide +kernel
theorem dX1_tellHead_132 : decode cX1_tellHead 132 = .ok (.iconst 2, 1) := by decide +kernel
theorem dX1_tellHead_133 : decode cX1_tellHead 133 = .ok (.invokevirtual 161, 3) := by decide +kernel
theorem dX1_tellHead_136 : decode cX1_tellHead 136 = .ok (.ireturn, 1) := by decide +kernel
theorem dX1_tellHead_137 : decode cX1_tellHead 137 = .ok (.bipush (-2), 2) := by decide +kernel
theorem dX1_tellHead_139 : decode cX1_tellHead 139 = .ok (.ireturn, 1) := by decide +kernel
theorem dX1_tellWhole_0 : decode cX1_tellWhole 0 = .ok (.iload_n 1, 1) := by decide +kernel
theorem dX1_tellWhole_1 : decode cX1_tellWhole 1 = .ok (.tableswitch 136 0 11 #[63, 68, 77, 84, 89, 95, 103, 111, 116, 121, 126, 131], 63) := by decide +kernel
theorem dX1_tellWhole_64 : decode cX1_tellWhole 64 = .ok (.aload_n 0, 1) := by decide +kernel
theorem dX1_tellWhole_65 : decode cX1_tellWhole 65 = .ok (.getfield 9, 3) := by decide +kernel
theorem dX1_tellWhole_68 : decode cX1_tellWhole 68 = .ok (.ireturn, 1) := by decide +kernel
theorem dX1_tellWhole_69 : decode cX1_tellWhole 69 = .ok (.bipush 64, 2) := by decide +kernel
theorem dX1_tellWhole_71 : decode cX1_tellWhole 71 = .ok (.aload_n 0, 1) := by decide +kernel
theorem dX1_tellWhole_72 : decode cX1_tellWhole 72 = .ok (.iconst 1, 1) := by decide +kernel
theorem dX1_tellWhole_73 : decode cX1_tellWhole 73 = .ok (.invokevirtual 164, 3) := by decide +kernel
theorem dX1_tellWhole_76 : decode cX1_tellWhole 76 = .ok (.isub, 1) := by decide +kernel
theorem dX1_tellWhole_77 : decode cX1_tellWhole 77 = .ok (.ireturn, 1) := by decide +kernel
theorem dX1_tellWhole_78 : decode cX1_tellWhole 78 = .ok (.aload_n 0, 1) := by decide +kernel
theorem dX1_tellWhole_79 : decode cX1_tellWhole 79 = .ok (.bipush 6, 2) := by decide +kernel
theorem dX1_tellWhole_81 : decode cX1_tellWhole 81 = .ok (.invokevirtual 164, 3) := by decide +kernel
theorem dX1_tellWhole_84 : decode cX1_tellWhole 84 = .ok (.ireturn, 1) := by decide +kernel
theorem dX1_tellWhole_85 : decode cX1_tellWhole 85 = .ok (.aload_n 0, 1) := by decide +kernel
theorem dX1_tellWhole_86 : decode cX1_tellWhole 86 = .ok (.invokevirtual 167, 3) := by decide +kernel
theorem dX1_tellWhole_89 : decode cX1_tellWhole 89 = .ok (.ireturn, 1) := by decide +kernel
theorem dX1_tellWhole_90 : decode cX1_tellWhole 90 = .ok (.aload_n 0, 1) := by decide +kernel
theorem dX1_tellWhole_91 : decode cX1_tellWhole 91 = .ok (.iconst 2, 1) := by decide +kernel
theorem dX1_tellWhole_92 : decode cX1_tellWhole 92 = .ok (.invokevirtual 164, 3) := by decide +kernel
theorem dX1_tellWhole_95 : decode cX1_tellWhole 95 = .ok (.ireturn, 1) := by decide +kernel
theorem dX1_tellWhole_96 : decode cX1_tellWhole 96 = .ok (.aload_n 0, 1) := by decide +kernel
theorem dX1_tellWhole_97 : decode cX1_tellWhole 97 = .ok (.getfield 41, 3) := by decide +kernel
theorem dX1_tellWhole_100 : decode cX1_tellWhole 100 = .ok (.invokestatic 76, 3) := by decide +kernel
theorem dX1_tellWhole_103 : decode cX1_tellWhole 103 = .ok (.ireturn, 1) := by decide +kernel
theorem dX1_tellWhole_104 : decode cX1_tellWhole 104 = .ok (.aload_n 0, 1) := by decide +kernel
theorem dX1_tellWhole_105 : decode cX1_tellWhole 105 = .ok (.getfield 41, 3) := by decide +kernel
theorem dX1_tellWhole_108 : decode cX1_tellWhole 108 = .ok (.invokestatic 80, 3) := by decide +kernel
theorem dX1_tellWhole_111 : decode cX1_tellWhole 111 = .ok (.ireturn, 1) := by decide +kernel
theorem dX1_tellWhole_112 : decode cX1_tellWhole 112 = .ok (.aload_n 0, 1) := by decide +kernel
theorem dX1_tellWhole_113 : decode cX1_tellWhole 113 = .ok (.getfield 44, 3) := by decide +kernel
theorem dX1_tellWhole_116 : decode cX1_tellWhole 116 = .ok (.ireturn, 1) := by decide +kernel
theorem dX1_tellWhole_117 : decode cX1_tellWhole 117 = .ok (.aload_n 0, 1) := by decide +kernel
theorem dX1_tellWhole_118 : decode cX1_tellWhole 118 = .ok (.getfield 47, 3) := by decide +kernel
theorem dX1_tellWhole_121 : decode cX1_tellWhole 121 = .ok (.ireturn, 1) := by decide +kernel
theorem dX1_tellWhole_122 : decode cX1_tellWhole 122 = .ok (.aload_n 0, 1) := by decide +kernel
theorem dX1_tellWhole_123 : decode cX1_tellWhole 123 = .ok (.getfield 50, 3) := by decide +kernel
theorem dX1_tellWhole_126 : decode cX1_tellWhole 126 = .ok (.ireturn, 1) := by decide +kernel
theorem dX1_tellWhole_127 : decode cX1_tellWhole 127 = .ok (.aload_n 0, 1) := by decide +kernel
theorem dX1_tellWhole_128 : decode cX1_tellWhole 128 = .ok (.getfield 53, 3) := by decide +kernel
theorem dX1_tellWhole_131 : decode cX1_tellWhole 131 = .ok (.ireturn, 1) := by decide +kernel
theorem dX1_tellWhole_132 : decode cX1_tellWhole 132 = .ok (.aload_n 0, 1) := by decide +kernel
theorem dX1_tellWhole_133 : decode cX1_tellWhole 133 = .ok (.getfield 56, 3) := by decide +kernel
theorem dX1_tellWhole_136 : decode cX1_tellWhole 136 = .ok (.ireturn, 1) := by decide +kernel
theorem dX1_tellWhole_137 : decode cX1_tellWhole 137 = .ok (.bipush (-2), 2) := by decide +kernel
theorem dX1_tellWhole_139 : decode cX1_tellWhole 139 = .ok (.ireturn, 1) := by decide +kernel
theorem dX1_readsUntilChange_0 : decode cX1_readsUntilChange 0 = .ok (.aload_n 0, 1) := by decide +kernel
theorem dX1_readsUntilChange_1 : decode cX1_readsUntilChange 1 = .ok (.iload_n 1, 1) := by decide +kernel
theorem dX1_readsUntilChange_2 : decode cX1_readsUntilChange 2 = .ok (.invokevirtual 69, 3) := by decide +kernel
theorem dX1_readsUntilChange_5 : decode cX1_readsUntilChange 5 = .ok (.ifCond .ne 5, 3) := by decide +kernel
theorem dX1_readsUntilChange_8 : decode cX1_readsUntilChange 8 = .ok (.iconst (-1), 1) := by decide +kernel
theorem dX1_readsUntilChange_9 : decode cX1_readsUntilChange 9 = .ok (.ireturn, 1) := by decide +kernel
theorem dX1_readsUntilChange_10 : decode cX1_readsUntilChange 10 = .ok (.aload_n 0, 1) := by decide +kernel
theorem dX1_readsUntilChange_11 : decode cX1_readsUntilChange 11 = .ok (.iload_n 1, 1) := by decide +kernel
theorem dX1_readsUntilChange_12 : decode cX1_readsUntilChange 12 = .ok (.invokevirtual 83, 3) := by decide +kernel
theorem dX1_readsUntilChange_15 : decode cX1_readsUntilChange 15 = .ok (.ifCond .eq 6, 3) := by decide +kernel
theorem dX1_readsUntilChange_18 : decode cX1_readsUntilChange 18 = .ok (.bipush (-4), 2) := by decide +kernel
theorem dX1_readsUntilChange_20 : decode cX1_readsUntilChange 20 = .ok (.ireturn, 1) := by decide +kernel
theorem dX1_readsUntilChange_21 : decode cX1_readsUntilChange 21 = .ok (.aload_n 0, 1) := by decide +kernel
theorem dX1_readsUntilChange_22 : decode cX1_readsUntilChange 22 = .ok (.getfield 35, 3) := by decide +kernel
theorem dX1_readsUntilChange_25 : decode cX1_readsUntilChange 25 = .ok (.iload_n 1, 1) := by decide +kernel
theorem dX1_readsUntilChange_26 : decode cX1_readsUntilChange 26 = .ok (.iaload, 1) := by decide +kernel
theorem dX1_readsUntilChange_27 : decode cX1_readsUntilChange 27 = .ok (.istore_n 2, 1) := by decide +kernel
theorem dX1_readsUntilChange_28 : decode cX1_readsUntilChange 28 = .ok (.aload_n 0, 1) := by decide +kernel
theorem dX1_readsUntilChange_29 : decode cX1_readsUntilChange 29 = .ok (.iload_n 1, 1) := by decide +kernel
theorem dX1_readsUntilChange_30 : decode cX1_readsUntilChange 30 = .ok (.invokevirtual 118, 3) := by decide +kernel
theorem dX1_readsUntilChange_33 : decode cX1_readsUntilChange 33 = .ok (.bipush (-5), 2) := by decide +kernel
theorem dX1_readsUntilChange_35 : decode cX1_readsUntilChange 35 = .ok (.if_icmp .eq 10, 3) := by decide +kernel
theorem dX1_readsUntilChange_38 : decode cX1_readsUntilChange 38 = .ok (.aload_n 0, 1) := by decide +kernel
theorem dX1_readsUntilChange_39 : decode cX1_readsUntilChange 39 = .ok (.getfield 9, 3) := by decide +kernel
theorem dX1_readsUntilChange_42 : decode cX1_readsUntilChange 42 = .ok (.goto 9, 3) := by decide +kernel
theorem dX1_readsUntilChange_45 : decode cX1_readsUntilChange 45 = .ok (.iconst 2, 1) := by decide +kernel
theorem dX1_readsUntilChange_46 : decode cX1_readsUntilChange 46 = .ok (.aload_n 0, 1) := by decide +kernel
theorem dX1_readsUntilChange_47 : decode cX1_readsUntilChange 47 = .ok (.getfield 9, 3) := by decide +kernel
theorem dX1_readsUntilChange_50 : decode cX1_readsUntilChange 50 = .ok (.imul, 1) := by decide +kernel
theorem dX1_readsUntilChange_51 : decode cX1_readsUntilChange 51 = .ok (.istore_n 3, 1) := by decide +kernel
theorem dX1_readsUntilChange_52 : decode cX1_readsUntilChange 52 = .ok (.aload_n 0, 1) := by decide +kernel
theorem dX1_readsUntilChange_53 : decode cX1_readsUntilChange 53 = .ok (.getfield 26, 3) := by decide +kernel
theorem dX1_readsUntilChange_56 : decode cX1_readsUntilChange 56 = .ok (.iload_n 2, 1) := by decide +kernel
theorem dX1_readsUntilChange_57 : decode cX1_readsUntilChange 57 = .ok (.iaload, 1) := by decide +kernel
theorem dX1_readsUntilChange_58 : decode cX1_readsUntilChange 58 = .ok (.istore 4, 2) := by decide +kernel
theorem dX1_readsUntilChange_60 : decode cX1_readsUntilChange 60 = .ok (.iconst 1, 1) := by decide +kernel
theorem dX1_readsUntilChange_61 : decode cX1_readsUntilChange 61 = .ok (.istore 5, 2) := by decide +kernel
theorem dX1_readsUntilChange_63 : decode cX1_readsUntilChange 63 = .ok (.iload 5, 2) := by decide +kernel
theorem dX1_readsUntilChange_65 : decode cX1_readsUntilChange 65 = .ok (.sipush 2000, 3) := by decide +kernel
theorem dX1_readsUntilChange_68 : decode cX1_readsUntilChange 68 = .ok (.if_icmp .gt 32, 3) := by decide +kernel
theorem dX1_readsUntilChange_71 : decode cX1_readsUntilChange 71 = .ok (.iload 4, 2) := by decide +kernel
theorem dX1_readsUntilChange_73 : decode cX1_readsUntilChange 73 = .ok (.aload_n 0, 1) := by decide +kernel
theorem dX1_readsUntilChange_74 : decode cX1_readsUntilChange 74 = .ok (.getfield 15, 3) := by decide +kernel
theorem dX1_readsUntilChange_77 : decode cX1_readsUntilChange 77 = .ok (.iload_n 2, 1) := by decide +kernel
theorem dX1_readsUntilChange_78 : decode cX1_readsUntilChange 78 = .ok (.invokestatic 80, 3) := by decide +kernel
theorem dX1_readsUntilChange_81 : decode cX1_readsUntilChange 81 = .ok (.iaload, 1) := by decide +kernel
theorem dX1_readsUntilChange_82 : decode cX1_readsUntilChange 82 = .ok (.iadd, 1) := by decide +kernel
theorem dX1_readsUntilChange_83 : decode cX1_readsUntilChange 83 = .ok (.istore 4, 2) := by decide +kernel
theorem dX1_readsUntilChange_85 : decode cX1_readsUntilChange 85 = .ok (.iload 4, 2) := by decide +kernel
theorem dX1_readsUntilChange_87 : decode cX1_readsUntilChange 87 = .ok (.iload_n 3, 1) := by decide +kernel
theorem dX1_readsUntilChange_88 : decode cX1_readsUntilChange 88 = .ok (.if_icmp .lt 6, 3) := by decide +kernel
theorem dX1_readsUntilChange_91 : decode cX1_readsUntilChange 91 = .ok (.iload 5, 2) := by decide +kernel
theorem dX1_readsUntilChange_93 : decode cX1_readsUntilChange 93 = .ok (.ireturn, 1) := by decide +kernel
theorem dX1_readsUntilChange_94 : decode cX1_readsUntilChange 94 = .ok (.iinc 5 1, 3) := by decide +kernel
theorem dX1_readsUntilChange_97 : decode cX1_readsUntilChange 97 = .ok (.goto (-34), 3) := by decide +kernel
theorem dX1_readsUntilChange_100 : decode cX1_readsUntilChange 100 = .ok (.bipush (-5), 2) := by decide +kernel
theorem dX1_readsUntilChange_102 : decode cX1_readsUntilChange 102 = .ok (.ireturn, 1) := by decide +kernel
theorem dX1_addressOfRank_0 : decode cX1_addressOfRank 0 = .ok (.iconst 0, 1) := by decide +kernel
theorem dX1_addressOfRank_1 : decode cX1_addressOfRank 1 = .ok (.istore_n 2, 1) := by decide +kernel
theorem dX1_addressOfRank_2 : decode cX1_addressOfRank 2 = .ok (.iload_n 2, 1) := by decide +kernel
theorem dX1_addressOfRank_3 : decode cX1_addressOfRank 3 = .ok (.bipush 64, 2) := by decide +kernel
theorem dX1_addressOfRank_5 : decode cX1_addressOfRank 5 = .ok (.if_icmp .ge 28, 3) := by decide +kernel
theorem dX1_addressOfRank_8 : decode cX1_addressOfRank 8 = .ok (.aload_n 0, 1) := by decide +kernel
theorem dX1_addressOfRank_9 : decode cX1_addressOfRank 9 = .ok (.iload_n 2, 1) := by decide +kernel
theorem dX1_addressOfRank_10 : decode cX1_addressOfRank 10 = .ok (.invokevirtual 171, 3) := by decide +kernel
theorem dX1_addressOfRank_13 : decode cX1_addressOfRank 13 = .ok (.ifCond .eq 14, 3) := by decide +kernel
theorem dX1_addressOfRank_16 : decode cX1_addressOfRank 16 = .ok (.aload_n 0, 1) := by decide +kernel
theorem dX1_addressOfRank_17 : decode cX1_addressOfRank 17 = .ok (.iload_n 2, 1) := by decide +kernel
theorem dX1_addressOfRank_18 : decode cX1_addressOfRank 18 = .ok (.invokevirtual 174, 3) := by decide +kernel
theorem dX1_addressOfRank_21 : decode cX1_addressOfRank 21 = .ok (.iload_n 1, 1) := by decide +kernel
theorem dX1_addressOfRank_22 : decode cX1_addressOfRank 22 = .ok (.if_icmp .ne 5, 3) := by decide +kernel
theorem dX1_addressOfRank_25 : decode cX1_addressOfRank 25 = .ok (.iload_n 2, 1) := by decide +kernel
theorem dX1_addressOfRank_26 : decode cX1_addressOfRank 26 = .ok (.ireturn, 1) := by decide +kernel
theorem dX1_addressOfRank_27 : decode cX1_addressOfRank 27 = .ok (.iinc 2 1, 3) := by decide +kernel
theorem dX1_addressOfRank_30 : decode cX1_addressOfRank 30 = .ok (.goto (-28), 3) := by decide +kernel
theorem dX1_addressOfRank_33 : decode cX1_addressOfRank 33 = .ok (.bipush (-5), 2) := by decide +kernel
theorem dX1_addressOfRank_35 : decode cX1_addressOfRank 35 = .ok (.ireturn, 1) := by decide +kernel
theorem dX1_hasRank_0 : decode cX1_hasRank 0 = .ok (.aload_n 0, 1) := by decide +kernel
theorem dX1_hasRank_1 : decode cX1_hasRank 1 = .ok (.iload_n 1, 1) := by decide +kernel
theorem dX1_hasRank_2 : decode cX1_hasRank 2 = .ok (.invokevirtual 69, 3) := by decide +kernel
theorem dX1_hasRank_5 : decode cX1_hasRank 5 = .ok (.ifCond .eq 15, 3) := by decide +kernel
theorem dX1_hasRank_8 : decode cX1_hasRank 8 = .ok (.aload_n 0, 1) := by decide +kernel
theorem dX1_hasRank_9 : decode cX1_hasRank 9 = .ok (.iload_n 1, 1) := by decide +kernel
theorem dX1_hasRank_10 : decode cX1_hasRank 10 = .ok (.invokevirtual 83, 3) := by decide +kernel
theorem dX1_hasRank_13 : decode cX1_hasRank 13 = .ok (.ifCond .ne 7, 3) := by decide +kernel
theorem dX1_hasRank_16 : decode cX1_hasRank 16 = .ok (.iconst 1, 1) := by decide +kernel
theorem dX1_hasRank_17 : decode cX1_hasRank 17 = .ok (.goto 4, 3) := by decide +kernel
theorem dX1_hasRank_20 : decode cX1_hasRank 20 = .ok (.iconst 0, 1) := by decide +kernel
theorem dX1_hasRank_21 : decode cX1_hasRank 21 = .ok (.ireturn, 1) := by decide +kernel
theorem dX1_rankOf_0 : decode cX1_rankOf 0 = .ok (.aload_n 0, 1) := by decide +kernel
theorem dX1_rankOf_1 : decode cX1_rankOf 1 = .ok (.getfield 26, 3) := by decide +kernel
theorem dX1_rankOf_4 : decode cX1_rankOf 4 = .ok (.aload_n 0, 1) := by decide +kernel
theorem dX1_rankOf_5 : decode cX1_rankOf 5 = .ok (.getfield 35, 3) := by decide +kernel
theorem dX1_rankOf_8 : decode cX1_rankOf 8 = .ok (.iload_n 1, 1) := by decide +kernel
theorem dX1_rankOf_9 : decode cX1_rankOf 9 = .ok (.iaload, 1) := by decide +kernel
theorem dX1_rankOf_10 : decode cX1_rankOf 10 = .ok (.iaload, 1) := by decide +kernel
theorem dX1_rankOf_11 : decode cX1_rankOf 11 = .ok (.istore_n 2, 1) := by decide +kernel
theorem dX1_rankOf_12 : decode cX1_rankOf 12 = .ok (.iconst 0, 1) := by decide +kernel
theorem dX1_rankOf_13 : decode cX1_rankOf 13 = .ok (.istore_n 3, 1) := by decide +kernel
theorem dX1_rankOf_14 : decode cX1_rankOf 14 = .ok (.iconst 0, 1) := by decide +kernel
theorem dX1_rankOf_15 : decode cX1_rankOf 15 = .ok (.istore 4, 2) := by decide +kernel
theorem dX1_rankOf_17 : decode cX1_rankOf 17 = .ok (.iload 4, 2) := by decide +kernel
theorem dX1_rankOf_19 : decode cX1_rankOf 19 = .ok (.bipush 64, 2) := by decide +kernel
theorem dX1_rankOf_21 : decode cX1_rankOf 21 = .ok (.if_icmp .ge 53, 3) := by decide +kernel
theorem dX1_rankOf_24 : decode cX1_rankOf 24 = .ok (.aload_n 0, 1) := by decide +kernel
theorem dX1_rankOf_25 : decode cX1_rankOf 25 = .ok (.iload 4, 2) := by decide +kernel
theorem dX1_rankOf_27 : decode cX1_rankOf 27 = .ok (.invokevirtual 171, 3) := by decide +kernel
theorem dX1_rankOf_30 : decode cX1_rankOf 30 = .ok (.ifCond .eq 38, 3) := by decide +kernel
theorem dX1_rankOf_33 : decode cX1_rankOf 33 = .ok (.aload_n 0, 1) := by decide +kernel
theorem dX1_rankOf_34 : decode cX1_rankOf 34 = .ok (.getfield 26, 3) := by decide +kernel
theorem dX1_rankOf_37 : decode cX1_rankOf 37 = .ok (.aload_n 0, 1) := by decide +kernel
theorem dX1_rankOf_38 : decode cX1_rankOf 38 = .ok (.getfield 35, 3) := by decide +kernel
theorem dX1_rankOf_41 : decode cX1_rankOf 41 = .ok (.iload 4, 2) := by decide +kernel
theorem dX1_rankOf_43 : decode cX1_rankOf 43 = .ok (.iaload, 1) := by decide +kernel
theorem dX1_rankOf_44 : decode cX1_rankOf 44 = .ok (.iaload, 1) := by decide +kernel
theorem dX1_rankOf_45 : decode cX1_rankOf 45 = .ok (.istore 5, 2) := by decide +kernel
theorem dX1_rankOf_47 : decode cX1_rankOf 47 = .ok (.iload 5, 2) := by decide +kernel
theorem dX1_rankOf_49 : decode cX1_rankOf 49 = .ok (.iload_n 2, 1) := by decide +kernel
theorem dX1_rankOf_50 : decode cX1_rankOf 50 = .ok (.if_icmp .gt 15, 3) := by decide +kernel
theorem dX1_rankOf_53 : decode cX1_rankOf 53 = .ok (.iload 5, 2) := by decide +kernel
theorem dX1_rankOf_55 : decode cX1_rankOf 55 = .ok (.iload_n 2, 1) := by decide +kernel
theorem dX1_rankOf_56 : decode cX1_rankOf 56 = .ok (.if_icmp .ne 12, 3) := by decide +kernel
theorem dX1_rankOf_59 : decode cX1_rankOf 59 = .ok (.iload 4, 2) := by decide +kernel
theorem dX1_rankOf_61 : decode cX1_rankOf 61 = .ok (.iload_n 1, 1) := by decide +kernel
theorem dX1_rankOf_62 : decode cX1_rankOf 62 = .ok (.if_icmp .ge 6, 3) := by decide +kernel
theorem dX1_rankOf_65 : decode cX1_rankOf 65 = .ok (.iinc 3 1, 3) := by decide +kernel
theorem dX1_rankOf_68 : decode cX1_rankOf 68 = .ok (.iinc 4 1, 3) := by decide +kernel
theorem dX1_rankOf_71 : decode cX1_rankOf 71 = .ok (.goto (-54), 3) := by decide +kernel
theorem dX1_rankOf_74 : decode cX1_rankOf 74 = .ok (.iload_n 3, 1) := by decide +kernel
theorem dX1_rankOf_75 : decode cX1_rankOf 75 = .ok (.ireturn, 1) := by decide +kernel
theorem dX1_leadingElsewhere_0 : decode cX1_leadingElsewhere 0 = .ok (.iconst 0, 1) := by decide +kernel
theorem dX1_leadingElsewhere_1 : decode cX1_leadingElsewhere 1 = .ok (.istore_n 3, 1) := by decide +kernel
theorem dX1_leadingElsewhere_2 : decode cX1_leadingElsewhere 2 = .ok (.iconst 0, 1) := by decide +kernel
theorem dX1_leadingElsewhere_3 : decode cX1_leadingElsewhere 3 = .ok (.istore 4, 2) := by decide +kernel
theorem dX1_leadingElsewhere_5 : decode cX1_leadingElsewhere 5 = .ok (.iload 4, 2) := by decide +kernel
theorem dX1_leadingElsewhere_7 : decode cX1_leadingElsewhere 7 = .ok (.bipush 16, 2) := by decide +kernel
theorem dX1_leadingElsewhere_9 : decode cX1_leadingElsewhere 9 = .ok (.if_icmp .ge 39, 3) := by decide +kernel
theorem dX1_leadingElsewhere_12 : decode cX1_leadingElsewhere 12 = .ok (.aload_n 1, 1) := by decide +kernel
theorem dX1_leadingElsewhere_13 : decode cX1_leadingElsewhere 13 = .ok (.iload_n 2, 1) := by decide +kernel
theorem dX1_leadingElsewhere_14 : decode cX1_leadingElsewhere 14 = .ok (.bipush 16, 2) := by decide +kernel
theorem dX1_leadingElsewhere_16 : decode cX1_leadingElsewhere 16 = .ok (.imul, 1) := by decide +kernel
theorem dX1_leadingElsewhere_17 : decode cX1_leadingElsewhere 17 = .ok (.iload 4, 2) := by decide +kernel
theorem dX1_leadingElsewhere_19 : decode cX1_leadingElsewhere 19 = .ok (.iadd, 1) := by decide +kernel
theorem dX1_leadingElsewhere_20 : decode cX1_leadingElsewhere 20 = .ok (.iaload, 1) := by decide +kernel
theorem dX1_leadingElsewhere_21 : decode cX1_leadingElsewhere 21 = .ok (.istore 5, 2) := by decide +kernel
theorem dX1_leadingElsewhere_23 : decode cX1_leadingElsewhere 23 = .ok (.iload 5, 2) := by decide +kernel
theorem dX1_leadingElsewhere_25 : decode cX1_leadingElsewhere 25 = .ok (.bipush (-5), 2) := by decide +kernel
theorem dX1_leadingElsewhere_27 : decode cX1_leadingElsewhere 27 = .ok (.if_icmp .eq 15, 3) := by decide +kernel
theorem dX1_leadingElsewhere_30 : decode cX1_leadingElsewhere 30 = .ok (.iload 5, 2) := by decide +kernel
theorem dX1_leadingElsewhere_32 : decode cX1_leadingElsewhere 32 = .ok (.invokestatic 80, 3) := by decide +kernel
theorem dX1_leadingElsewhere_35 : decode cX1_leadingElsewhere 35 = .ok (.iload_n 2, 1) := by decide +kernel
theorem dX1_leadingElsewhere_36 : decode cX1_leadingElsewhere 36 = .ok (.if_icmp .eq 6, 3) := by decide +kernel
theorem dX1_leadingElsewhere_39 : decode cX1_leadingElsewhere 39 = .ok (.iinc 3 1, 3) := by decide +kernel
theorem dX1_leadingElsewhere_42 : decode cX1_leadingElsewhere 42 = .ok (.iinc 4 1, 3) := by decide +kernel
theorem dX1_leadingElsewhere_45 : decode cX1_leadingElsewhere 45 = .ok (.goto (-40), 3) := by decide +kernel
theorem dX1_leadingElsewhere_48 : decode cX1_leadingElsewhere 48 = .ok (.iload_n 3, 1) := by decide +kernel
theorem dX1_leadingElsewhere_49 : decode cX1_leadingElsewhere 49 = .ok (.ireturn, 1) := by decide +kernel
theorem dX1_lostOf_0 : decode cX1_lostOf 0 = .ok (.iconst 0, 1) := by decide +kernel
theorem dX1_lostOf_1 : decode cX1_lostOf 1 = .ok (.istore_n 2, 1) := by decide +kernel
theorem dX1_lostOf_2 : decode cX1_lostOf 2 = .ok (.iconst 0, 1) := by decide +kernel
theorem dX1_lostOf_3 : decode cX1_lostOf 3 = .ok (.istore_n 3, 1) := by decide +kernel
theorem dX1_lostOf_4 : decode cX1_lostOf 4 = .ok (.iload_n 3, 1) := by decide +kernel
theorem dX1_lostOf_5 : decode cX1_lostOf 5 = .ok (.bipush 16, 2) := by decide +kernel
theorem dX1_lostOf_7 : decode cX1_lostOf 7 = .ok (.aload_n 0, 1) := by decide +kernel
theorem dX1_lostOf_8 : decode cX1_lostOf 8 = .ok (.getfield 19, 3) := by decide +kernel
theorem dX1_lostOf_11 : decode cX1_lostOf 11 = .ok (.iload_n 1, 1) := by decide +kernel
theorem dX1_lostOf_12 : decode cX1_lostOf 12 = .ok (.iaload, 1) := by decide +kernel
theorem dX1_lostOf_13 : decode cX1_lostOf 13 = .ok (.isub, 1) := by decide +kernel
theorem dX1_lostOf_14 : decode cX1_lostOf 14 = .ok (.if_icmp .ge 25, 3) := by decide +kernel
theorem dX1_lostOf_17 : decode cX1_lostOf 17 = .ok (.aload_n 0, 1) := by decide +kernel
theorem dX1_lostOf_18 : decode cX1_lostOf 18 = .ok (.iload_n 1, 1) := by decide +kernel
theorem dX1_lostOf_19 : decode cX1_lostOf 19 = .ok (.bipush 16, 2) := by decide +kernel
theorem dX1_lostOf_21 : decode cX1_lostOf 21 = .ok (.imul, 1) := by decide +kernel
theorem dX1_lostOf_22 : decode cX1_lostOf 22 = .ok (.iload_n 3, 1) := by decide +kernel
theorem dX1_lostOf_23 : decode cX1_lostOf 23 = .ok (.iadd, 1) := by decide +kernel
theorem dX1_lostOf_24 : decode cX1_lostOf 24 = .ok (.invokevirtual 83, 3) := by decide +kernel
theorem dX1_lostOf_27 : decode cX1_lostOf 27 = .ok (.ifCond .eq 6, 3) := by decide +kernel
theorem dX1_lostOf_30 : decode cX1_lostOf 30 = .ok (.iinc 2 1, 3) := by decide +kernel
theorem dX1_lostOf_33 : decode cX1_lostOf 33 = .ok (.iinc 3 1, 3) := by decide +kernel
theorem dX1_lostOf_36 : decode cX1_lostOf 36 = .ok (.goto (-32), 3) := by decide +kernel
theorem dX1_lostOf_39 : decode cX1_lostOf 39 = .ok (.iload_n 2, 1) := by decide +kernel
theorem dX1_lostOf_40 : decode cX1_lostOf 40 = .ok (.ireturn, 1) := by decide +kernel
theorem dX1_wearOf_0 : decode cX1_wearOf 0 = .ok (.iconst 0, 1) := by decide +kernel
theorem dX1_wearOf_1 : decode cX1_wearOf 1 = .ok (.istore_n 2, 1) := by decide +kernel
theorem dX1_wearOf_2 : decode cX1_wearOf 2 = .ok (.iconst 0, 1) := by decide +kernel
theorem dX1_wearOf_3 : decode cX1_wearOf 3 = .ok (.istore_n 3, 1) := by decide +kernel
theorem dX1_wearOf_4 : decode cX1_wearOf 4 = .ok (.iload_n 3, 1) := by decide +kernel
theorem dX1_wearOf_5 : decode cX1_wearOf 5 = .ok (.bipush 16, 2) := by decide +kernel
theorem dX1_wearOf_7 : decode cX1_wearOf 7 = .ok (.if_icmp .ge 23, 3) := by decide +kernel
theorem dX1_wearOf_10 : decode cX1_wearOf 10 = .ok (.iload_n 2, 1) := by decide +kernel
theorem dX1_wearOf_11 : decode cX1_wearOf 11 = .ok (.aload_n 0, 1) := by decide +kernel
theorem dX1_wearOf_12 : decode cX1_wearOf 12 = .ok (.getfield 26, 3) := by decide +kernel
theorem dX1_wearOf_15 : decode cX1_wearOf 15 = .ok (.iload_n 1, 1) := by decide +kernel
theorem dX1_wearOf_16 : decode cX1_wearOf 16 = .ok (.bipush 16, 2) := by decide +kernel
theorem dX1_wearOf_18 : decode cX1_wearOf 18 = .ok (.imul, 1) := by decide +kernel
theorem dX1_wearOf_19 : decode cX1_wearOf 19 = .ok (.iload_n 3, 1) := by decide +kernel
theorem dX1_wearOf_20 : decode cX1_wearOf 20 = .ok (.iadd, 1) := by decide +kernel
theorem dX1_wearOf_21 : decode cX1_wearOf 21 = .ok (.iaload, 1) := by decide +kernel
theorem dX1_wearOf_22 : decode cX1_wearOf 22 = .ok (.iadd, 1) := by decide +kernel
theorem dX1_wearOf_23 : decode cX1_wearOf 23 = .ok (.istore_n 2, 1) := by decide +kernel
theorem dX1_wearOf_24 : decode cX1_wearOf 24 = .ok (.iinc 3 1, 3) := by decide +kernel
theorem dX1_wearOf_27 : decode cX1_wearOf 27 = .ok (.goto (-23), 3) := by decide +kernel
theorem dX1_wearOf_30 : decode cX1_wearOf 30 = .ok (.iload_n 2, 1) := by decide +kernel
theorem dX1_wearOf_31 : decode cX1_wearOf 31 = .ok (.ireturn, 1) := by decide +kernel
theorem dX1_gradedOf_0 : decode cX1_gradedOf 0 = .ok (.iconst 0, 1) := by decide +kernel
theorem dX1_gradedOf_1 : decode cX1_gradedOf 1 = .ok (.istore_n 3, 1) := by decide +kernel
theorem dX1_gradedOf_2 : decode cX1_gradedOf 2 = .ok (.iconst 0, 1) := by decide +kernel
theorem dX1_gradedOf_3 : decode cX1_gradedOf 3 = .ok (.istore 4, 2) := by decide +kernel
theorem dX1_gradedOf_5 : decode cX1_gradedOf 5 = .ok (.iload 4, 2) := by decide +kernel
theorem dX1_gradedOf_7 : decode cX1_gradedOf 7 = .ok (.bipush 16, 2) := by decide +kernel
theorem dX1_gradedOf_9 : decode cX1_gradedOf 9 = .ok (.if_icmp .ge 27, 3) := by decide +kernel
theorem dX1_gradedOf_12 : decode cX1_gradedOf 12 = .ok (.aload_n 0, 1) := by decide +kernel
theorem dX1_gradedOf_13 : decode cX1_gradedOf 13 = .ok (.iload_n 1, 1) := by decide +kernel
theorem dX1_gradedOf_14 : decode cX1_gradedOf 14 = .ok (.bipush 16, 2) := by decide +kernel
theorem dX1_gradedOf_16 : decode cX1_gradedOf 16 = .ok (.imul, 1) := by decide +kernel
theorem dX1_gradedOf_17 : decode cX1_gradedOf 17 = .ok (.iload 4, 2) := by decide +kernel
theorem dX1_gradedOf_19 : decode cX1_gradedOf 19 = .ok (.iadd, 1) := by decide +kernel
theorem dX1_gradedOf_20 : decode cX1_gradedOf 20 = .ok (.invokevirtual 154, 3) := by decide +kernel
theorem dX1_gradedOf_23 : decode cX1_gradedOf 23 = .ok (.iload_n 2, 1) := by decide +kernel
theorem dX1_gradedOf_24 : decode cX1_gradedOf 24 = .ok (.if_icmp .ne 6, 3) := by decide +kernel
theorem dX1_gradedOf_27 : decode cX1_gradedOf 27 = .ok (.iinc 3 1, 3) := by decide +kernel
theorem dX1_gradedOf_30 : decode cX1_gradedOf 30 = .ok (.iinc 4 1, 3) := by decide +kernel
theorem dX1_gradedOf_33 : decode cX1_gradedOf 33 = .ok (.goto (-28), 3) := by decide +kernel
theorem dX1_gradedOf_36 : decode cX1_gradedOf 36 = .ok (.iload_n 3, 1) := by decide +kernel
theorem dX1_gradedOf_37 : decode cX1_gradedOf 37 = .ok (.ireturn, 1) := by decide +kernel
theorem dX1_overHeads_0 : decode cX1_overHeads 0 = .ok (.iconst 0, 1) := by decide +kernel
theorem dX1_overHeads_1 : decode cX1_overHeads 1 = .ok (.istore_n 2, 1) := by decide +kernel
theorem dX1_overHeads_2 : decode cX1_overHeads 2 = .ok (.iconst 0, 1) := by decide +kernel
theorem dX1_overHeads_3 : decode cX1_overHeads 3 = .ok (.istore_n 3, 1) := by decide +kernel
theorem dX1_overHeads_4 : decode cX1_overHeads 4 = .ok (.iload_n 3, 1) := by decide +kernel
theorem dX1_overHeads_5 : decode cX1_overHeads 5 = .ok (.iconst 4, 1) := by decide +kernel
theorem dX1_overHeads_6 : decode cX1_overHeads 6 = .ok (.if_icmp .ge 18, 3) := by decide +kernel
theorem dX1_overHeads_9 : decode cX1_overHeads 9 = .ok (.iload_n 2, 1) := by decide +kernel
theorem dX1_overHeads_10 : decode cX1_overHeads 10 = .ok (.aload_n 0, 1) := by decide +kernel
theorem dX1_overHeads_11 : decode cX1_overHeads 11 = .ok (.iload_n 3, 1) := by decide +kernel
theorem dX1_overHeads_12 : decode cX1_overHeads 12 = .ok (.iload_n 1, 1) := by decide +kernel
theorem dX1_overHeads_13 : decode cX1_overHeads 13 = .ok (.invokevirtual 177, 3) := by decide +kernel
theorem dX1_overHeads_16 : decode cX1_overHeads 16 = .ok (.iadd, 1) := by decide +kernel
theorem dX1_overHeads_17 : decode cX1_overHeads 17 = .ok (.istore_n 2, 1) := by decide +kernel
theorem dX1_overHeads_18 : decode cX1_overHeads 18 = .ok (.iinc 3 1, 3) := by decide +kernel
theorem dX1_overHeads_21 : decode cX1_overHeads 21 = .ok (.goto (-17), 3) := by decide +kernel
theorem dX1_overHeads_24 : decode cX1_overHeads 24 = .ok (.iload_n 2, 1) := by decide +kernel
theorem dX1_overHeads_25 : decode cX1_overHeads 25 = .ok (.ireturn, 1) := by decide +kernel
theorem dX1_longWayCount_0 : decode cX1_longWayCount 0 = .ok (.iconst 0, 1) := by decide +kernel
theorem dX1_longWayCount_1 : decode cX1_longWayCount 1 = .ok (.istore_n 1, 1) := by decide +kernel
theorem dX1_longWayCount_2 : decode cX1_longWayCount 2 = .ok (.iconst 0, 1) := by decide +kernel
theorem dX1_longWayCount_3 : decode cX1_longWayCount 3 = .ok (.istore_n 2, 1) := by decide +kernel
theorem dX1_longWayCount_4 : decode cX1_longWayCount 4 = .ok (.iload_n 2, 1) := by decide +kernel
theorem dX1_longWayCount_5 : decode cX1_longWayCount 5 = .ok (.bipush 64, 2) := by decide +kernel
theorem dX1_longWayCount_7 : decode cX1_longWayCount 7 = .ok (.if_icmp .ge 28, 3) := by decide +kernel
theorem dX1_longWayCount_10 : decode cX1_longWayCount 10 = .ok (.aload_n 0, 1) := by decide +kernel
theorem dX1_longWayCount_11 : decode cX1_longWayCount 11 = .ok (.iload_n 2, 1) := by decide +kernel
theorem dX1_longWayCount_12 : decode cX1_longWayCount 12 = .ok (.invokevirtual 69, 3) := by decide +kernel
theorem dX1_longWayCount_15 : decode cX1_longWayCount 15 = .ok (.ifCond .eq 14, 3) := by decide +kernel
theorem dX1_longWayCount_18 : decode cX1_longWayCount 18 = .ok (.aload_n 0, 1) := by decide +kernel
theorem dX1_longWayCount_19 : decode cX1_longWayCount 19 = .ok (.iload_n 2, 1) := by decide +kernel
theorem dX1_longWayCount_20 : decode cX1_longWayCount 20 = .ok (.invokevirtual 148, 3) := by decide +kernel
theorem dX1_longWayCount_23 : decode cX1_longWayCount 23 = .ok (.ifCond .eq 6, 3) := by decide +kernel
theorem dX1_longWayCount_26 : decode cX1_longWayCount 26 = .ok (.iinc 1 1, 3) := by decide +kernel
theorem dX1_longWayCount_29 : decode cX1_longWayCount 29 = .ok (.iinc 2 1, 3) := by decide +kernel
theorem dX1_longWayCount_32 : decode cX1_longWayCount 32 = .ok (.goto (-28), 3) := by decide +kernel
theorem dX1_longWayCount_35 : decode cX1_longWayCount 35 = .ok (.iload_n 1, 1) := by decide +kernel
theorem dX1_longWayCount_36 : decode cX1_longWayCount 36 = .ok (.ireturn, 1) := by decide +kernel
theorem dX2_init_0 : decode cX2_init 0 = .ok (.aload_n 0, 1) := by decide +kernel
theorem dX2_init_1 : decode cX2_init 1 = .ok (.invokespecial 3, 3) := by decide +kernel
theorem dX2_init_4 : decode cX2_init 4 = .ok (.aload_n 0, 1) := by decide +kernel
theorem dX2_init_5 : decode cX2_init 5 = .ok (.iconst 4, 1) := by decide +kernel
theorem dX2_init_6 : decode cX2_init 6 = .ok (.anewarray 9, 3) := by decide +kernel
theorem dX2_init_9 : decode cX2_init 9 = .ok (.putfield 11, 3) := by decide +kernel
theorem dX2_init_12 : decode cX2_init 12 = .ok (.aload_n 0, 1) := by decide +kernel
theorem dX2_init_13 : decode cX2_init 13 = .ok (.iconst 0, 1) := by decide +kernel
theorem dX2_init_14 : decode cX2_init 14 = .ok (.putfield 17, 3) := by decide +kernel
theorem dX2_init_17 : decode cX2_init 17 = .ok (.aload_n 0, 1) := by decide +kernel
theorem dX2_init_18 : decode cX2_init 18 = .ok (.iconst 0, 1) := by decide +kernel
theorem dX2_init_19 : decode cX2_init 19 = .ok (.putfield 21, 3) := by decide +kernel
theorem dX2_init_22 : decode cX2_init 22 = .ok (.iconst 0, 1) := by decide +kernel
theorem dX2_init_23 : decode cX2_init 23 = .ok (.istore_n 1, 1) := by decide +kernel
theorem dX2_init_24 : decode cX2_init 24 = .ok (.iload_n 1, 1) := by decide +kernel
theorem dX2_init_25 : decode cX2_init 25 = .ok (.iconst 4, 1) := by decide +kernel
theorem dX2_init_26 : decode cX2_init 26 = .ok (.if_icmp .ge 22, 3) := by decide +kernel
theorem dX2_init_29 : decode cX2_init 29 = .ok (.aload_n 0, 1) := by decide +kernel
theorem dX2_init_30 : decode cX2_init 30 = .ok (.getfield 11, 3) := by decide +kernel
theorem dX2_init_33 : decode cX2_init 33 = .ok (.iload_n 1, 1) := by decide +kernel
theorem dX2_init_34 : decode cX2_init 34 = .ok (.new 9, 3) := by decide +kernel
theorem dX2_init_37 : decode cX2_init 37 = .ok (.dup, 1) := by decide +kernel
theorem dX2_init_38 : decode cX2_init 38 = .ok (.invokespecial 24, 3) := by decide +kernel
theorem dX2_init_41 : decode cX2_init 41 = .ok (.aastore, 1) := by decide +kernel
theorem dX2_init_42 : decode cX2_init 42 = .ok (.iinc 1 1, 3) := by decide +kernel
theorem dX2_init_45 : decode cX2_init 45 = .ok (.goto (-21), 3) := by decide +kernel
theorem dX2_init_48 : decode cX2_init 48 = .ok (.return_, 1) := by decide +kernel
theorem dX2_states_0 : decode cX2_states 0 = .ok (.aload_n 0, 1) := by decide +kernel
theorem dX2_states_1 : decode cX2_states 1 = .ok (.getfield 21, 3) := by decide +kernel
theorem dX2_states_4 : decode cX2_states 4 = .ok (.ireturn, 1) := by decide +kernel
theorem dX2_record_0 : decode cX2_record 0 = .ok (.aload_n 0, 1) := by decide +kernel
theorem dX2_record_1 : decode cX2_record 1 = .ok (.getfield 21, 3) := by decide +kernel
theorem dX2_record_4 : decode cX2_record 4 = .ok (.iconst 4, 1) := by decide +kernel
theorem dX2_record_5 : decode cX2_record 5 = .ok (.if_icmp .ne 25, 3) := by decide +kernel
theorem dX2_record_8 : decode cX2_record 8 = .ok (.aload_n 0, 1) := by decide +kernel
theorem dX2_record_9 : decode cX2_record 9 = .ok (.aload_n 0, 1) := by decide +kernel
theorem dX2_record_10 : decode cX2_record 10 = .ok (.getfield 17, 3) := by decide +kernel
theorem dX2_record_13 : decode cX2_record 13 = .ok (.iconst 1, 1) := by decide +kernel
theorem dX2_record_14 : decode cX2_record 14 = .ok (.iadd, 1) := by decide +kernel
theorem dX2_record_15 : decode cX2_record 15 = .ok (.iconst 4, 1) := by decide +kernel
theorem dX2_record_16 : decode cX2_record 16 = .ok (.irem, 1) := by decide +kernel
theorem dX2_record_17 : decode cX2_record 17 = .ok (.putfield 17, 3) := by decide +kernel
theorem dX2_record_20 : decode cX2_record 20 = .ok (.aload_n 0, 1) := by decide +kernel
theorem dX2_record_21 : decode cX2_record 21 = .ok (.dup, 1) := by decide +kernel
theorem dX2_record_22 : decode cX2_record 22 = .ok (.getfield 21, 3) := by decide +kernel
theorem dX2_record_25 : decode cX2_record 25 = .ok (.iconst 1, 1) := by decide +kernel
theorem dX2_record_26 : decode cX2_record 26 = .ok (.isub, 1) := by decide +kernel
theorem dX2_record_27 : decode cX2_record 27 = .ok (.putfield 21, 3) := by decide +kernel
theorem dX2_record_30 : decode cX2_record 30 = .ok (.aload_n 0, 1) := by decide +kernel
theorem dX2_record_31 : decode cX2_record 31 = .ok (.getfield 11, 3) := by decide +kernel
theorem dX2_record_34 : decode cX2_record 34 = .ok (.aload_n 0, 1) := by decide +kernel
theorem dX2_record_35 : decode cX2_record 35 = .ok (.getfield 17, 3) := by decide +kernel
theorem dX2_record_38 : decode cX2_record 38 = .ok (.aload_n 0, 1) := by decide +kernel
theorem dX2_record_39 : decode cX2_record 39 = .ok (.getfield 21, 3) := by decide +kernel
theorem dX2_record_42 : decode cX2_record 42 = .ok (.iadd, 1) := by decide +kernel
theorem dX2_record_43 : decode cX2_record 43 = .ok (.iconst 4, 1) := by decide +kernel
theorem dX2_record_44 : decode cX2_record 44 = .ok (.irem, 1) := by decide +kernel
theorem dX2_record_45 : decode cX2_record 45 = .ok (.aaload, 1) := by decide +kernel
theorem dX2_record_46 : decode cX2_record 46 = .ok (.aload_n 1, 1) := by decide +kernel
theorem dX2_record_47 : decode cX2_record 47 = .ok (.invokevirtual 25, 3) := by decide +kernel
theorem dX2_record_50 : decode cX2_record 50 = .ok (.aload_n 0, 1) := by decide +kernel
theorem dX2_record_51 : decode cX2_record 51 = .ok (.dup, 1) := by decide +kernel
theorem dX2_record_52 : decode cX2_record 52 = .ok (.getfield 21, 3) := by decide +kernel
theorem dX2_record_55 : decode cX2_record 55 = .ok (.iconst 1, 1) := by decide +kernel
theorem dX2_record_56 : decode cX2_record 56 = .ok (.iadd, 1) := by decide +kernel
theorem dX2_record_57 : decode cX2_record 57 = .ok (.putfield 21, 3) := by decide +kernel
theorem dX2_record_60 : decode cX2_record 60 = .ok (.return_, 1) := by decide +kernel
theorem dX2_takeBack_0 : decode cX2_takeBack 0 = .ok (.aload_n 0, 1) := by decide +kernel
theorem dX2_takeBack_1 : decode cX2_takeBack 1 = .ok (.getfield 21, 3) := by decide +kernel
theorem dX2_takeBack_4 : decode cX2_takeBack 4 = .ok (.ifCond .le 33, 3) := by decide +kernel
theorem dX2_takeBack_7 : decode cX2_takeBack 7 = .ok (.aload_n 0, 1) := by decide +kernel
theorem dX2_takeBack_8 : decode cX2_takeBack 8 = .ok (.dup, 1) := by decide +kernel
theorem dX2_takeBack_9 : decode cX2_takeBack 9 = .ok (.getfield 21, 3) := by decide +kernel
theorem dX2_takeBack_12 : decode cX2_takeBack 12 = .ok (.iconst 1, 1) := by decide +kernel
theorem dX2_takeBack_13 : decode cX2_takeBack 13 = .ok (.isub, 1) := by decide +kernel
theorem dX2_takeBack_14 : decode cX2_takeBack 14 = .ok (.putfield 21, 3) := by decide +kernel
theorem dX2_takeBack_17 : decode cX2_takeBack 17 = .ok (.aload_n 1, 1) := by decide +kernel
theorem dX2_takeBack_18 : decode cX2_takeBack 18 = .ok (.aload_n 0, 1) := by decide +kernel
theorem dX2_takeBack_19 : decode cX2_takeBack 19 = .ok (.getfield 11, 3) := by decide +kernel
theorem dX2_takeBack_22 : decode cX2_takeBack 22 = .ok (.aload_n 0, 1) := by decide +kernel
theorem dX2_takeBack_23 : decode cX2_takeBack 23 = .ok (.getfield 17, 3) := by decide +kernel
theorem dX2_takeBack_26 : decode cX2_takeBack 26 = .ok (.aload_n 0, 1) := by decide +kernel
theorem dX2_takeBack_27 : decode cX2_takeBack 27 = .ok (.getfield 21, 3) := by decide +kernel
theorem dX2_takeBack_30 : decode cX2_takeBack 30 = .ok (.iadd, 1) := by decide +kernel
theorem dX2_takeBack_31 : decode cX2_takeBack 31 = .ok (.iconst 4, 1) := by decide +kernel
theorem dX2_takeBack_32 : decode cX2_takeBack 32 = .ok (.irem, 1) := by decide +kernel
theorem dX2_takeBack_33 : decode cX2_takeBack 33 = .ok (.aaload, 1) := by decide +kernel
theorem dX2_takeBack_34 : decode cX2_takeBack 34 = .ok (.invokevirtual 25, 3) := by decide +kernel
theorem dX2_takeBack_37 : decode cX2_takeBack 37 = .ok (.return_, 1) := by decide +kernel
theorem dX3_init_0 : decode cX3_init 0 = .ok (.aload_n 0, 1) := by decide +kernel
theorem dX3_init_1 : decode cX3_init 1 = .ok (.invokespecial 3, 3) := by decide +kernel
theorem dX3_init_4 : decode cX3_init 4 = .ok (.aload_n 0, 1) := by decide +kernel
theorem dX3_init_5 : decode cX3_init 5 = .ok (.new 9, 3) := by decide +kernel
theorem dX3_init_8 : decode cX3_init 8 = .ok (.dup, 1) := by decide +kernel
theorem dX3_init_9 : decode cX3_init 9 = .ok (.invokespecial 11, 3) := by decide +kernel
theorem dX3_init_12 : decode cX3_init 12 = .ok (.putfield 12, 3) := by decide +kernel
theorem dX3_init_15 : decode cX3_init 15 = .ok (.aload_n 0, 1) := by decide +kernel
theorem dX3_init_16 : decode cX3_init 16 = .ok (.new 9, 3) := by decide +kernel
theorem dX3_init_19 : decode cX3_init 19 = .ok (.dup, 1) := by decide +kernel
theorem dX3_init_20 : decode cX3_init 20 = .ok (.invokespecial 11, 3) := by decide +kernel
theorem dX3_init_23 : decode cX3_init 23 = .ok (.putfield 16, 3) := by decide +kernel
theorem dX3_init_26 : decode cX3_init 26 = .ok (.aload_n 0, 1) := by decide +kernel
theorem dX3_init_27 : decode cX3_init 27 = .ok (.new 9, 3) := by decide +kernel
theorem dX3_init_30 : decode cX3_init 30 = .ok (.dup, 1) := by decide +kernel
theorem dX3_init_31 : decode cX3_init 31 = .ok (.invokespecial 11, 3) := by decide +kernel
theorem dX3_init_34 : decode cX3_init 34 = .ok (.putfield 19, 3) := by decide +kernel
theorem dX3_init_37 : decode cX3_init 37 = .ok (.aload_n 0, 1) := by decide +kernel
theorem dX3_init_38 : decode cX3_init 38 = .ok (.new 22, 3) := by decide +kernel
theorem dX3_init_41 : decode cX3_init 41 = .ok (.dup, 1) := by decide +kernel
theorem dX3_init_42 : decode cX3_init 42 = .ok (.invokespecial 24, 3) := by decide +kernel
theorem dX3_init_45 : decode cX3_init 45 = .ok (.putfield 25, 3) := by decide +kernel
theorem dX3_init_48 : decode cX3_init 48 = .ok (.aload_n 0, 1) := by decide +kernel
theorem dX3_init_49 : decode cX3_init 49 = .ok (.new 29, 3) := by decide +kernel
theorem dX3_init_52 : decode cX3_init 52 = .ok (.dup, 1) := by decide +kernel
theorem dX3_init_53 : decode cX3_init 53 = .ok (.invokespecial 31, 3) := by decide +kernel
theorem dX3_init_56 : decode cX3_init 56 = .ok (.putfield 32, 3) := by decide +kernel
theorem dX3_init_59 : decode cX3_init 59 = .ok (.aload_n 0, 1) := by decide +kernel
theorem dX3_init_60 : decode cX3_init 60 = .ok (.iconst 0, 1) := by decide +kernel
theorem dX3_init_61 : decode cX3_init 61 = .ok (.putfield 36, 3) := by decide +kernel
theorem dX3_init_64 : decode cX3_init 64 = .ok (.return_, 1) := by decide +kernel
theorem dX3_setLimit_0 : decode cX3_setLimit 0 = .ok (.aload_n 0, 1) := by decide +kernel
theorem dX3_setLimit_1 : decode cX3_setLimit 1 = .ok (.invokevirtual 40, 3) := by decide +kernel
theorem dX3_setLimit_4 : decode cX3_setLimit 4 = .ok (.aload_n 0, 1) := by decide +kernel
theorem dX3_setLimit_5 : decode cX3_setLimit 5 = .ok (.aload_n 0, 1) := by decide +kernel
theorem dX3_setLimit_6 : decode cX3_setLimit 6 = .ok (.getfield 16, 3) := by decide +kernel
theorem dX3_setLimit_9 : decode cX3_setLimit 9 = .ok (.iload_n 1, 1) := by decide +kernel
theorem dX3_setLimit_10 : decode cX3_setLimit 10 = .ok (.invokevirtual 43, 3) := by decide +kernel
theorem dX3_setLimit_13 : decode cX3_setLimit 13 = .ok (.invokevirtual 47, 3) := by decide +kernel
theorem dX3_setLimit_16 : decode cX3_setLimit 16 = .ok (.ireturn, 1) := by decide +kernel
theorem dX3_read_0 : decode cX3_read 0 = .ok (.aload_n 0, 1) := by decide +kernel
theorem dX3_read_1 : decode cX3_read 1 = .ok (.invokevirtual 40, 3) := by decide +kernel
theorem dX3_read_4 : decode cX3_read 4 = .ok (.aload_n 0, 1) := by decide +kernel
theorem dX3_read_5 : decode cX3_read 5 = .ok (.aload_n 0, 1) := by decide +kernel
theorem dX3_read_6 : decode cX3_read 6 = .ok (.getfield 16, 3) := by decide +kernel
theorem dX3_read_9 : decode cX3_read 9 = .ok (.iload_n 1, 1) := by decide +kernel
theorem dX3_read_10 : decode cX3_read 10 = .ok (.invokevirtual 61, 3) := by decide +kernel
theorem dX3_read_13 : decode cX3_read 13 = .ok (.invokevirtual 47, 3) := by decide +kernel
theorem dX3_read_16 : decode cX3_read 16 = .ok (.ireturn, 1) := by decide +kernel
theorem dX3_write_0 : decode cX3_write 0 = .ok (.aload_n 0, 1) := by decide +kernel
theorem dX3_write_1 : decode cX3_write 1 = .ok (.invokevirtual 40, 3) := by decide +kernel
theorem dX3_write_4 : decode cX3_write 4 = .ok (.aload_n 0, 1) := by decide +kernel
theorem dX3_write_5 : decode cX3_write 5 = .ok (.aload_n 0, 1) := by decide +kernel
theorem dX3_write_6 : decode cX3_write 6 = .ok (.getfield 16, 3) := by decide +kernel
theorem dX3_write_9 : decode cX3_write 9 = .ok (.iload_n 1, 1) := by decide +kernel
theorem dX3_write_10 : decode cX3_write 10 = .ok (.iload_n 2, 1) := by decide +kernel
theorem dX3_write_11 : decode cX3_write 11 = .ok (.invokevirtual 64, 3) := by decide +kernel
theorem dX3_write_14 : decode cX3_write 14 = .ok (.invokevirtual 47, 3) := by decide +kernel
theorem dX3_write_17 : decode cX3_write 17 = .ok (.ireturn, 1) := by decide +kernel
theorem dX3_copy_0 : decode cX3_copy 0 = .ok (.aload_n 0, 1) := by decide +kernel
theorem dX3_copy_1 : decode cX3_copy 1 = .ok (.getfield 12, 3) := by decide +kernel
theorem dX3_copy_4 : decode cX3_copy 4 = .ok (.iload_n 1, 1) := by decide +kernel
theorem dX3_copy_5 : decode cX3_copy 5 = .ok (.invokevirtual 67, 3) := by decide +kernel
theorem dX3_copy_8 : decode cX3_copy 8 = .ok (.ifCond .eq 14, 3) := by decide +kernel
theorem dX3_copy_11 : decode cX3_copy 11 = .ok (.aload_n 0, 1) := by decide +kernel
theorem dX3_copy_12 : decode cX3_copy 12 = .ok (.getfield 12, 3) := by decide +kernel
theorem dX3_copy_15 : decode cX3_copy 15 = .ok (.iload_n 2, 1) := by decide +kernel
theorem dX3_copy_16 : decode cX3_copy 16 = .ok (.invokevirtual 67, 3) := by decide +kernel
theorem dX3_copy_19 : decode cX3_copy 19 = .ok (.ifCond .ne 5, 3) := by decide +kernel
theorem dX3_copy_22 : decode cX3_copy 22 = .ok (.iconst (-1), 1) := by decide +kernel
theorem dX3_copy_23 : decode cX3_copy 23 = .ok (.ireturn, 1) := by decide +kernel
theorem dX3_copy_24 : decode cX3_copy 24 = .ok (.iload_n 3, 1) := by decide +kernel
theorem dX3_copy_25 : decode cX3_copy 25 = .ok (.iconst 1, 1) := by decide +kernel
theorem dX3_copy_26 : decode cX3_copy 26 = .ok (.if_icmp .lt 9, 3) := by decide +kernel
theorem dX3_copy_29 : decode cX3_copy 29 = .ok (.iload_n 3, 1) := by decide +kernel
theorem dX3_copy_30 : decode cX3_copy 30 = .ok (.bipush 16, 2) := by decide +kernel
theorem dX3_copy_32 : decode cX3_copy 32 = .ok (.if_icmp .le 6, 3) := by decide +kernel
theorem dX3_copy_35 : decode cX3_copy 35 = .ok (.bipush (-2), 2) := by decide +kernel
theorem dX3_copy_37 : decode cX3_copy 37 = .ok (.ireturn, 1) := by decide +kernel
theorem dX3_copy_38 : decode cX3_copy 38 = .ok (.aload_n 0, 1) := by decide +kernel
theorem dX3_copy_39 : decode cX3_copy 39 = .ok (.invokevirtual 40, 3) := by decide +kernel
theorem dX3_copy_42 : decode cX3_copy 42 = .ok (.aload_n 0, 1) := by decide +kernel
theorem dX3_copy_43 : decode cX3_copy 43 = .ok (.getfield 16, 3) := by decide +kernel
theorem dX3_copy_46 : decode cX3_copy 46 = .ok (.iload_n 1, 1) := by decide +kernel
theorem dX3_copy_47 : decode cX3_copy 47 = .ok (.iload_n 2, 1) := by decide +kernel
theorem dX3_copy_48 : decode cX3_copy 48 = .ok (.iload_n 3, 1) := by decide +kernel
theorem dX3_copy_49 : decode cX3_copy 49 = .ok (.invokevirtual 70, 3) := by decide +kernel
theorem dX3_copy_52 : decode cX3_copy 52 = .ok (.istore 4, 2) := by decide +kernel
theorem dX3_copy_54 : decode cX3_copy 54 = .ok (.iload 4, 2) := by decide +kernel
theorem dX3_copy_56 : decode cX3_copy 56 = .ok (.ifCond .ne 6, 3) := by decide +kernel
theorem dX3_copy_59 : decode cX3_copy 59 = .ok (.bipush (-5), 2) := by decide +kernel
theorem dX3_copy_61 : decode cX3_copy 61 = .ok (.ireturn, 1) := by decide +kernel
theorem dX3_copy_62 : decode cX3_copy 62 = .ok (.iload 4, 2) := by decide +kernel
theorem dX3_copy_64 : decode cX3_copy 64 = .ok (.iload_n 3, 1) := by decide +kernel
theorem dX3_copy_65 : decode cX3_copy 65 = .ok (.if_icmp .ge 19, 3) := by decide +kernel
theorem dX3_copy_68 : decode cX3_copy 68 = .ok (.aload_n 0, 1) := by decide +kernel
theorem dX3_copy_69 : decode cX3_copy 69 = .ok (.invokevirtual 40, 3) := by decide +kernel
theorem dX3_copy_72 : decode cX3_copy 72 = .ok (.aload_n 0, 1) := by decide +kernel
theorem dX3_copy_73 : decode cX3_copy 73 = .ok (.getfield 16, 3) := by decide +kernel
theorem dX3_copy_76 : decode cX3_copy 76 = .ok (.iload_n 1, 1) := by decide +kernel
theorem dX3_copy_77 : decode cX3_copy 77 = .ok (.iload_n 2, 1) := by decide +kernel
theorem dX3_copy_78 : decode cX3_copy 78 = .ok (.iload 4, 2) := by decide +kernel
theorem dX3_copy_80 : decode cX3_copy 80 = .ok (.invokevirtual 70, 3) := by decide +kernel
theorem dX3_copy_83 : decode cX3_copy 83 = .ok (.pop, 1) := by decide +kernel
theorem dX3_copy_84 : decode cX3_copy 84 = .ok (.aload_n 0, 1) := by decide +kernel
theorem dX3_copy_85 : decode cX3_copy 85 = .ok (.iload 4, 2) := by decide +kernel
theorem dX3_copy_87 : decode cX3_copy 87 = .ok (.invokevirtual 47, 3) := by decide +kernel
theorem dX3_copy_90 : decode cX3_copy 90 = .ok (.ireturn, 1) := by decide +kernel
theorem dX3_test_0 : decode cX3_test 0 = .ok (.iload_n 1, 1) := by decide +kernel
theorem dX3_test_1 : decode cX3_test 1 = .ok (.invokestatic 50, 3) := by decide +kernel
theorem dX3_test_4 : decode cX3_test 4 = .ok (.ifCond .ne 5, 3) := by decide +kernel
theorem dX3_test_7 : decode cX3_test 7 = .ok (.iconst (-1), 1) := by decide +kernel
theorem dX3_test_8 : decode cX3_test 8 = .ok (.ireturn, 1) := by decide +kernel
theorem dX3_test_9 : decode cX3_test 9 = .ok (.aload_n 0, 1) := by decide +kernel
theorem dX3_test_10 : decode cX3_test 10 = .ok (.invokevirtual 40, 3) := by decide +kernel
theorem dX3_test_13 : decode cX3_test 13 = .ok (.aload_n 0, 1) := by decide +kernel
theorem dX3_test_14 : decode cX3_test 14 = .ok (.aload_n 0, 1) := by decide +kernel
theorem dX3_test_15 : decode cX3_test 15 = .ok (.getfield 16, 3) := by decide +kernel
theorem dX3_test_18 : decode cX3_test 18 = .ok (.iload_n 1, 1) := by decide +kernel
theorem dX3_test_19 : decode cX3_test 19 = .ok (.invokevirtual 74, 3) := by decide +kernel
theorem dX3_test_22 : decode cX3_test 22 = .ok (.invokevirtual 47, 3) := by decide +kernel
theorem dX3_test_25 : decode cX3_test 25 = .ok (.ireturn, 1) := by decide +kernel
theorem dX3_perform_0 : decode cX3_perform 0 = .ok (.aload_n 0, 1) := by decide +kernel
theorem dX3_perform_1 : decode cX3_perform 1 = .ok (.getfield 32, 3) := by decide +kernel
theorem dX3_perform_4 : decode cX3_perform 4 = .ok (.invokevirtual 77, 3) := by decide +kernel
theorem dX3_perform_7 : decode cX3_perform 7 = .ok (.istore_n 1, 1) := by decide +kernel
theorem dX3_perform_8 : decode cX3_perform 8 = .ok (.iload_n 1, 1) := by decide +kernel
theorem dX3_perform_9 : decode cX3_perform 9 = .ok (.bipush (-5), 2) := by decide +kernel
theorem dX3_perform_11 : decode cX3_perform 11 = .ok (.if_icmp .eq 8, 3) := by decide +kernel
theorem dX3_perform_14 : decode cX3_perform 14 = .ok (.bipush (-100), 2) := by decide +kernel
theorem dX3_perform_16 : decode cX3_perform 16 = .ok (.iload_n 1, 1) := by decide +kernel
theorem dX3_perform_17 : decode cX3_perform 17 = .ok (.isub, 1) := by decide +kernel
theorem dX3_perform_18 : decode cX3_perform 18 = .ok (.ireturn, 1) := by decide +kernel
theorem dX3_perform_19 : decode cX3_perform 19 = .ok (.aload_n 0, 1) := by decide +kernel
theorem dX3_perform_20 : decode cX3_perform 20 = .ok (.invokevirtual 40, 3) := by decide +kernel
theorem dX3_perform_23 : decode cX3_perform 23 = .ok (.iconst 0, 1) := by decide +kernel
theorem dX3_perform_24 : decode cX3_perform 24 = .ok (.istore_n 2, 1) := by decide +kernel
theorem dX3_perform_25 : decode cX3_perform 25 = .ok (.iload_n 2, 1) := by decide +kernel
theorem dX3_perform_26 : decode cX3_perform 26 = .ok (.aload_n 0, 1) := by decide +kernel
theorem dX3_perform_27 : decode cX3_perform 27 = .ok (.getfield 32, 3) := by decide +kernel
theorem dX3_perform_30 : decode cX3_perform 30 = .ok (.invokevirtual 81, 3) := by decide +kernel
theorem dX3_perform_33 : decode cX3_perform 33 = .ok (.if_icmp .ge 66, 3) := by decide +kernel
theorem dX3_perform_36 : decode cX3_perform 36 = .ok (.aload_n 0, 1) := by decide +kernel
theorem dX3_perform_37 : decode cX3_perform 37 = .ok (.getfield 32, 3) := by decide +kernel
theorem dX3_perform_40 : decode cX3_perform 40 = .ok (.iload_n 2, 1) := by decide +kernel
theorem dX3_perform_41 : decode cX3_perform 41 = .ok (.invokevirtual 84, 3) := by decide +kernel
theorem dX3_perform_44 : decode cX3_perform 44 = .ok (.istore_n 3, 1) := by decide +kernel
theorem dX3_perform_45 : decode cX3_perform 45 = .ok (.aload_n 0, 1) := by decide +kernel
theorem dX3_perform_46 : decode cX3_perform 46 = .ok (.getfield 32, 3) := by decide +kernel
theorem dX3_perform_49 : decode cX3_perform 49 = .ok (.iload_n 2, 1) := by decide +kernel
theorem dX3_perform_50 : decode cX3_perform 50 = .ok (.invokevirtual 87, 3) := by decide +kernel
theorem dX3_perform_53 : decode cX3_perform 53 = .ok (.istore 4, 2) := by decide +kernel
theorem dX3_perform_55 : decode cX3_perform 55 = .ok (.iload 4, 2) := by decide +kernel
theorem dX3_perform_57 : decode cX3_perform 57 = .ok (.bipush (-5), 2) := by decide +kernel
theorem dX3_perform_59 : decode cX3_perform 59 = .ok (.if_icmp .ne 14, 3) := by decide +kernel
theorem dX3_perform_62 : decode cX3_perform 62 = .ok (.aload_n 0, 1) := by decide +kernel
theorem dX3_perform_63 : decode cX3_perform 63 = .ok (.getfield 16, 3) := by decide +kernel
theorem dX3_perform_66 : decode cX3_perform 66 = .ok (.iload_n 3, 1) := by decide +kernel
theorem dX3_perform_67 : decode cX3_perform 67 = .ok (.invokevirtual 61, 3) := by decide +kernel
theorem dX3_perform_70 : decode cX3_perform 70 = .ok (.goto 13, 3) := by decide +kernel
theorem dX3_perform_73 : decode cX3_perform 73 = .ok (.aload_n 0, 1) := by decide +kernel
theorem dX3_perform_74 : decode cX3_perform 74 = .ok (.getfield 16, 3) := by decide +kernel
theorem dX3_perform_77 : decode cX3_perform 77 = .ok (.iload_n 3, 1) := by decide +kernel
theorem dX3_perform_78 : decode cX3_perform 78 = .ok (.iload 4, 2) := by decide +kernel
theorem dX3_perform_80 : decode cX3_perform 80 = .ok (.invokevirtual 64, 3) := by decide +kernel
theorem dX3_perform_83 : decode cX3_perform 83 = .ok (.istore 5, 2) := by decide +kernel
theorem dX3_perform_85 : decode cX3_perform 85 = .ok (.iload 5, 2) := by decide +kernel
theorem dX3_perform_87 : decode cX3_perform 87 = .ok (.ifCond .ge 6, 3) := by decide +kernel
theorem dX3_perform_90 : decode cX3_perform 90 = .ok (.iload 5, 2) := by decide +kernel
theorem dX3_perform_92 : decode cX3_perform 92 = .ok (.ireturn, 1) := by decide +kernel
theorem dX3_perform_93 : decode cX3_perform 93 = .ok (.iinc 2 1, 3) := by decide +kernel
theorem dX3_perform_96 : decode cX3_perform 96 = .ok (.goto (-71), 3) := by decide +kernel
theorem dX3_perform_99 : decode cX3_perform 99 = .ok (.aload_n 0, 1) := by decide +kernel
theorem dX3_perform_100 : decode cX3_perform 100 = .ok (.aload_n 0, 1) := by decide +kernel
theorem dX3_perform_101 : decode cX3_perform 101 = .ok (.getfield 32, 3) := by decide +kernel
theorem dX3_perform_104 : decode cX3_perform 104 = .ok (.invokevirtual 81, 3) := by decide +kernel
theorem dX3_perform_107 : decode cX3_perform 107 = .ok (.invokevirtual 47, 3) := by decide +kernel
theorem dX3_perform_110 : decode cX3_perform 110 = .ok (.ireturn, 1) := by decide +kernel
theorem dX3_giveBack_0 : decode cX3_giveBack 0 = .ok (.aload_n 0, 1) := by decide +kernel
theorem dX3_giveBack_1 : decode cX3_giveBack 1 = .ok (.invokevirtual 40, 3) := by decide +kernel
theorem dX3_giveBack_4 : decode cX3_giveBack 4 = .ok (.aload_n 0, 1) := by decide +kernel
theorem dX3_giveBack_5 : decode cX3_giveBack 5 = .ok (.aload_n 0, 1) := by decide +kernel
theorem dX3_giveBack_6 : decode cX3_giveBack 6 = .ok (.getfield 16, 3) := by decide +kernel
theorem dX3_giveBack_9 : decode cX3_giveBack 9 = .ok (.iload_n 1, 1) := by decide +kernel
theorem dX3_giveBack_10 : decode cX3_giveBack 10 = .ok (.invokevirtual 90, 3) := by decide +kernel
theorem dX3_giveBack_13 : decode cX3_giveBack 13 = .ok (.invokevirtual 47, 3) := by decide +kernel
theorem dX3_giveBack_16 : decode cX3_giveBack 16 = .ok (.ireturn, 1) := by decide +kernel
theorem dX3_giveUp_0 : decode cX3_giveUp 0 = .ok (.iload_n 1, 1) := by decide +kernel
theorem dX3_giveUp_1 : decode cX3_giveUp 1 = .ok (.invokestatic 50, 3) := by decide +kernel
theorem dX3_giveUp_4 : decode cX3_giveUp 4 = .ok (.ifCond .ne 5, 3) := by decide +kernel
theorem dX3_giveUp_7 : decode cX3_giveUp 7 = .ok (.iconst (-1), 1) := by decide +kernel
theorem dX3_giveUp_8 : decode cX3_giveUp 8 = .ok (.ireturn, 1) := by decide +kernel
theorem dX3_giveUp_9 : decode cX3_giveUp 9 = .ok (.aload_n 0, 1) := by decide +kernel
theorem dX3_giveUp_10 : decode cX3_giveUp 10 = .ok (.getfield 12, 3) := by decide +kernel
theorem dX3_giveUp_13 : decode cX3_giveUp 13 = .ok (.iload_n 1, 1) := by decide +kernel
theorem dX3_giveUp_14 : decode cX3_giveUp 14 = .ok (.invokevirtual 93, 3) := by decide +kernel
theorem dX3_giveUp_17 : decode cX3_giveUp 17 = .ok (.ifCond .eq 6, 3) := by decide +kernel
theorem dX3_giveUp_20 : decode cX3_giveUp 20 = .ok (.bipush (-4), 2) := by decide +kernel
theorem dX3_giveUp_22 : decode cX3_giveUp 22 = .ok (.ireturn, 1) := by decide +kernel
theorem dX3_giveUp_23 : decode cX3_giveUp 23 = .ok (.aload_n 0, 1) := by decide +kernel
theorem dX3_giveUp_24 : decode cX3_giveUp 24 = .ok (.getfield 12, 3) := by decide +kernel
theorem dX3_giveUp_27 : decode cX3_giveUp 27 = .ok (.iload_n 1, 1) := by decide +kernel
theorem dX3_giveUp_28 : decode cX3_giveUp 28 = .ok (.invokevirtual 96, 3) := by decide +kernel
theorem dX3_giveUp_31 : decode cX3_giveUp 31 = .ok (.ifCond .eq 6, 3) := by decide +kernel
theorem dX3_giveUp_34 : decode cX3_giveUp 34 = .ok (.bipush (-5), 2) := by decide +kernel
theorem dX3_giveUp_36 : decode cX3_giveUp 36 = .ok (.ireturn, 1) := by decide +kernel
theorem dX3_giveUp_37 : decode cX3_giveUp 37 = .ok (.aload_n 0, 1) := by decide +kernel
theorem dX3_giveUp_38 : decode cX3_giveUp 38 = .ok (.invokevirtual 40, 3) := by decide +kernel
theorem dX3_giveUp_41 : decode cX3_giveUp 41 = .ok (.aload_n 0, 1) := by decide +kernel
theorem dX3_giveUp_42 : decode cX3_giveUp 42 = .ok (.aload_n 0, 1) := by decide +kernel
theorem dX3_giveUp_43 : decode cX3_giveUp 43 = .ok (.getfield 16, 3) := by decide +kernel
theorem dX3_giveUp_46 : decode cX3_giveUp 46 = .ok (.iload_n 1, 1) := by decide +kernel
theorem dX3_giveUp_47 : decode cX3_giveUp 47 = .ok (.invokevirtual 99, 3) := by decide +kernel
theorem dX3_giveUp_50 : decode cX3_giveUp 50 = .ok (.invokevirtual 47, 3) := by decide +kernel
theorem dX3_giveUp_53 : decode cX3_giveUp 53 = .ok (.ireturn, 1) := by decide +kernel
theorem dX3_undo_0 : decode cX3_undo 0 = .ok (.aload_n 0, 1) := by decide +kernel
theorem dX3_undo_1 : decode cX3_undo 1 = .ok (.getfield 25, 3) := by decide +kernel
theorem dX3_undo_4 : decode cX3_undo 4 = .ok (.invokevirtual 108, 3) := by decide +kernel
theorem dX3_undo_7 : decode cX3_undo 7 = .ok (.ifCond .ne 6, 3) := by decide +kernel
theorem dX3_undo_10 : decode cX3_undo 10 = .ok (.bipush (-5), 2) := by decide +kernel
theorem dX3_undo_12 : decode cX3_undo 12 = .ok (.ireturn, 1) := by decide +kernel
theorem dX3_undo_13 : decode cX3_undo 13 = .ok (.aload_n 0, 1) := by decide +kernel
theorem dX3_undo_14 : decode cX3_undo 14 = .ok (.getfield 25, 3) := by decide +kernel
theorem dX3_undo_17 : decode cX3_undo 17 = .ok (.aload_n 0, 1) := by decide +kernel
theorem dX3_undo_18 : decode cX3_undo 18 = .ok (.getfield 12, 3) := by decide +kernel
theorem dX3_undo_21 : decode cX3_undo 21 = .ok (.invokevirtual 111, 3) := by decide +kernel
theorem dX3_undo_24 : decode cX3_undo 24 = .ok (.aload_n 0, 1) := by decide +kernel
theorem dX3_undo_25 : decode cX3_undo 25 = .ok (.getfield 25, 3) := by decide +kernel
theorem dX3_undo_28 : decode cX3_undo 28 = .ok (.invokevirtual 108, 3) := by decide +kernel
theorem dX3_undo_31 : decode cX3_undo 31 = .ok (.ireturn, 1) := by decide +kernel
theorem dX3_restore_0 : decode cX3_restore 0 = .ok (.aload_n 0, 1) := by decide +kernel
theorem dX3_restore_1 : decode cX3_restore 1 = .ok (.getfield 36, 3) := by decide +kernel
theorem dX3_restore_4 : decode cX3_restore 4 = .ok (.ifCond .ne 6, 3) := by decide +kernel
theorem dX3_restore_7 : decode cX3_restore 7 = .ok (.bipush (-5), 2) := by decide +kernel
theorem dX3_restore_9 : decode cX3_restore 9 = .ok (.ireturn, 1) := by decide +kernel
theorem dX3_restore_10 : decode cX3_restore 10 = .ok (.aload_n 0, 1) := by decide +kernel
theorem dX3_restore_11 : decode cX3_restore 11 = .ok (.getfield 16, 3) := by decide +kernel
theorem dX3_restore_14 : decode cX3_restore 14 = .ok (.aload_n 0, 1) := by decide +kernel
theorem dX3_restore_15 : decode cX3_restore 15 = .ok (.getfield 19, 3) := by decide +kernel
theorem dX3_restore_18 : decode cX3_restore 18 = .ok (.invokevirtual 115, 3) := by decide +kernel
theorem dX3_restore_21 : decode cX3_restore 21 = .ok (.aload_n 0, 1) := by decide +kernel
theorem dX3_restore_22 : decode cX3_restore 22 = .ok (.aload_n 0, 1) := by decide +kernel
theorem dX3_restore_23 : decode cX3_restore 23 = .ok (.getfield 16, 3) := by decide +kernel
theorem dX3_restore_26 : decode cX3_restore 26 = .ok (.invokevirtual 118, 3) := by decide +kernel
theorem dX3_restore_29 : decode cX3_restore 29 = .ok (.invokevirtual 47, 3) := by decide +kernel
theorem dX3_restore_32 : decode cX3_restore 32 = .ok (.ireturn, 1) := by decide +kernel
theorem dX3_address_0 : decode cX3_address 0 = .ok (.aload_n 0, 1) := by decide +kernel
theorem dX3_address_1 : decode cX3_address 1 = .ok (.getfield 12, 3) := by decide +kernel
theorem dX3_address_4 : decode cX3_address 4 = .ok (.iload_n 1, 1) := by decide +kernel
theorem dX3_address_5 : decode cX3_address 5 = .ok (.invokevirtual 67, 3) := by decide +kernel
theorem dX3_address_8 : decode cX3_address 8 = .ok (.ifCond .eq 15, 3) := by decide +kernel
theorem dX3_address_11 : decode cX3_address 11 = .ok (.aload_n 0, 1) := by decide +kernel
theorem dX3_address_12 : decode cX3_address 12 = .ok (.getfield 12, 3) := by decide +kernel
theorem dX3_address_15 : decode cX3_address 15 = .ok (.iload_n 1, 1) := by decide +kernel
theorem dX3_address_16 : decode cX3_address 16 = .ok (.iload_n 2, 1) := by decide +kernel
theorem dX3_address_17 : decode cX3_address 17 = .ok (.invokevirtual 121, 3) := by decide +kernel
theorem dX3_address_20 : decode cX3_address 20 = .ok (.goto 4, 3) := by decide +kernel
theorem dX3_address_23 : decode cX3_address 23 = .ok (.iconst (-1), 1) := by decide +kernel
theorem dX3_address_24 : decode cX3_address 24 = .ok (.ireturn, 1) := by decide +kernel
theorem dX3_sector_0 : decode cX3_sector 0 = .ok (.iload_n 1, 1) := by decide +kernel
theorem dX3_sector_1 : decode cX3_sector 1 = .ok (.invokestatic 124, 3) := by decide +kernel
theorem dX3_sector_4 : decode cX3_sector 4 = .ok (.ifCond .eq 15, 3) := by decide +kernel
theorem dX3_sector_7 : decode cX3_sector 7 = .ok (.aload_n 0, 1) := by decide +kernel
theorem dX3_sector_8 : decode cX3_sector 8 = .ok (.getfield 12, 3) := by decide +kernel
theorem dX3_sector_11 : decode cX3_sector 11 = .ok (.iload_n 1, 1) := by decide +kernel
theorem dX3_sector_12 : decode cX3_sector 12 = .ok (.iload_n 2, 1) := by decide +kernel
theorem dX3_sector_13 : decode cX3_sector 13 = .ok (.invokevirtual 127, 3) := by decide +kernel
theorem dX3_sector_16 : decode cX3_sector 16 = .ok (.goto 4, 3) := by decide +kernel
theorem dX3_sector_19 : decode cX3_sector 19 = .ok (.iconst (-1), 1) := by decide +kernel
theorem dX3_sector_20 : decode cX3_sector 20 = .ok (.ireturn, 1) := by decide +kernel
theorem dX3_head_0 : decode cX3_head 0 = .ok (.iload_n 1, 1) := by decide +kernel
theorem dX3_head_1 : decode cX3_head 1 = .ok (.invokestatic 50, 3) := by decide +kernel
theorem dX3_head_4 : decode cX3_head 4 = .ok (.ifCond .eq 15, 3) := by decide +kernel
theorem dX3_head_7 : decode cX3_head 7 = .ok (.aload_n 0, 1) := by decide +kernel
theorem dX3_head_8 : decode cX3_head 8 = .ok (.getfield 12, 3) := by decide +kernel
theorem dX3_head_11 : decode cX3_head 11 = .ok (.iload_n 1, 1) := by decide +kernel
theorem dX3_head_12 : decode cX3_head 12 = .ok (.iload_n 2, 1) := by decide +kernel
theorem dX3_head_13 : decode cX3_head 13 = .ok (.invokevirtual 130, 3) := by decide +kernel
theorem dX3_head_16 : decode cX3_head 16 = .ok (.goto 4, 3) := by decide +kernel
theorem dX3_head_19 : decode cX3_head 19 = .ok (.iconst (-1), 1) := by decide +kernel
theorem dX3_head_20 : decode cX3_head 20 = .ok (.ireturn, 1) := by decide +kernel
theorem dX3_readsLeft_0 : decode cX3_readsLeft 0 = .ok (.aload_n 0, 1) := by decide +kernel
theorem dX3_readsLeft_1 : decode cX3_readsLeft 1 = .ok (.getfield 12, 3) := by decide +kernel
theorem dX3_readsLeft_4 : decode cX3_readsLeft 4 = .ok (.iload_n 1, 1) := by decide +kernel
theorem dX3_readsLeft_5 : decode cX3_readsLeft 5 = .ok (.invokevirtual 133, 3) := by decide +kernel
theorem dX3_readsLeft_8 : decode cX3_readsLeft 8 = .ok (.ireturn, 1) := by decide +kernel
theorem dX3_wouldLose_0 : decode cX3_wouldLose 0 = .ok (.iload_n 1, 1) := by decide +kernel
theorem dX3_wouldLose_1 : decode cX3_wouldLose 1 = .ok (.invokestatic 50, 3) := by decide +kernel
theorem dX3_wouldLose_4 : decode cX3_wouldLose 4 = .ok (.ifCond .ne 5, 3) := by decide +kernel
theorem dX3_wouldLose_7 : decode cX3_wouldLose 7 = .ok (.iconst (-1), 1) := by decide +kernel
theorem dX3_wouldLose_8 : decode cX3_wouldLose 8 = .ok (.ireturn, 1) := by decide +kernel
theorem dX3_wouldLose_9 : decode cX3_wouldLose 9 = .ok (.aload_n 0, 1) := by decide +kernel
theorem dX3_wouldLose_10 : decode cX3_wouldLose 10 = .ok (.getfield 12, 3) := by decide +kernel
theorem dX3_wouldLose_13 : decode cX3_wouldLose 13 = .ok (.iload_n 1, 1) := by decide +kernel
theorem dX3_wouldLose_14 : decode cX3_wouldLose 14 = .ok (.invokevirtual 96, 3) := by decide +kernel
theorem dX3_wouldLose_17 : decode cX3_wouldLose 17 = .ok (.ifCond .eq 6, 3) := by decide +kernel
theorem dX3_wouldLose_20 : decode cX3_wouldLose 20 = .ok (.bipush (-5), 2) := by decide +kernel
theorem dX3_wouldLose_22 : decode cX3_wouldLose 22 = .ok (.ireturn, 1) := by decide +kernel
theorem dX3_wouldLose_23 : decode cX3_wouldLose 23 = .ok (.aload_n 0, 1) := by decide +kernel
theorem dX3_wouldLose_24 : decode cX3_wouldLose 24 = .ok (.invokevirtual 40, 3) := by decide +kernel
theorem dX3_wouldLose_27 : decode cX3_wouldLose 27 = .ok (.aload_n 0, 1) := by decide +kernel
theorem dX3_wouldLose_28 : decode cX3_wouldLose 28 = .ok (.getfield 16, 3) := by decide +kernel
theorem dX3_wouldLose_31 : decode cX3_wouldLose 31 = .ok (.iload_n 1, 1) := by decide +kernel
theorem dX3_wouldLose_32 : decode cX3_wouldLose 32 = .ok (.invokevirtual 99, 3) := by decide +kernel
theorem dX3_wouldLose_35 : decode cX3_wouldLose 35 = .ok (.ireturn, 1) := by decide +kernel
theorem dX3_worst_0 : decode cX3_worst 0 = .ok (.iload_n 1, 1) := by decide +kernel
theorem dX3_worst_1 : decode cX3_worst 1 = .ok (.ifCond .ge 8, 3) := by decide +kernel
theorem dX3_worst_4 : decode cX3_worst 4 = .ok (.bipush (-2), 2) := by decide +kernel
theorem dX3_worst_6 : decode cX3_worst 6 = .ok (.goto 11, 3) := by decide +kernel
theorem dX3_worst_9 : decode cX3_worst 9 = .ok (.aload_n 0, 1) := by decide +kernel
theorem dX3_worst_10 : decode cX3_worst 10 = .ok (.getfield 12, 3) := by decide +kernel
theorem dX3_worst_13 : decode cX3_worst 13 = .ok (.iload_n 1, 1) := by decide +kernel
theorem dX3_worst_14 : decode cX3_worst 14 = .ok (.invokevirtual 136, 3) := by decide +kernel
theorem dX3_worst_17 : decode cX3_worst 17 = .ok (.ireturn, 1) := by decide +kernel
theorem dX3_count_0 : decode cX3_count 0 = .ok (.iload_n 1, 1) := by decide +kernel
theorem dX3_count_1 : decode cX3_count 1 = .ok (.lookupswitch 43 #[(12, 27), (13, 35)], 27) := by decide +kernel
theorem dX3_count_28 : decode cX3_count 28 = .ok (.aload_n 0, 1) := by decide +kernel
theorem dX3_count_29 : decode cX3_count 29 = .ok (.getfield 25, 3) := by decide +kernel
theorem dX3_count_32 : decode cX3_count 32 = .ok (.invokevirtual 108, 3) := by decide +kernel
theorem dX3_count_35 : decode cX3_count 35 = .ok (.ireturn, 1) := by decide +kernel
theorem dX3_count_36 : decode cX3_count 36 = .ok (.aload_n 0, 1) := by decide +kernel
theorem dX3_count_37 : decode cX3_count 37 = .ok (.getfield 32, 3) := by decide +kernel
theorem dX3_count_40 : decode cX3_count 40 = .ok (.invokevirtual 139, 3) := by decide +kernel
theorem dX3_count_43 : decode cX3_count 43 = .ok (.ireturn, 1) := by decide +kernel
theorem dX3_count_44 : decode cX3_count 44 = .ok (.aload_n 0, 1) := by decide +kernel
theorem dX3_count_45 : decode cX3_count 45 = .ok (.getfield 12, 3) := by decide +kernel
theorem dX3_count_48 : decode cX3_count 48 = .ok (.iload_n 1, 1) := by decide +kernel
theorem dX3_count_49 : decode cX3_count 49 = .ok (.invokevirtual 142, 3) := by decide +kernel
theorem dX3_count_52 : decode cX3_count 52 = .ok (.ireturn, 1) := by decide +kernel
theorem dX3_startTrial_0 : decode cX3_startTrial 0 = .ok (.aload_n 0, 1) := by decide +kernel
theorem dX3_startTrial_1 : decode cX3_startTrial 1 = .ok (.getfield 16, 3) := by decide +kernel
theorem dX3_startTrial_4 : decode cX3_startTrial 4 = .ok (.aload_n 0, 1) := by decide +kernel
theorem dX3_startTrial_5 : decode cX3_startTrial 5 = .ok (.getfield 12, 3) := by decide +kernel
theorem dX3_startTrial_8 : decode cX3_startTrial 8 = .ok (.invokevirtual 115, 3) := by decide +kernel
theorem dX3_startTrial_11 : decode cX3_startTrial 11 = .ok (.return_, 1) := by decide +kernel
theorem dX3_settle_0 : decode cX3_settle 0 = .ok (.iload_n 1, 1) := by decide +kernel
theorem dX3_settle_1 : decode cX3_settle 1 = .ok (.ifCond .lt 25, 3) := by decide +kernel
theorem dX3_settle_4 : decode cX3_settle 4 = .ok (.aload_n 0, 1) := by decide +kernel
theorem dX3_settle_5 : decode cX3_settle 5 = .ok (.getfield 25, 3) := by decide +kernel
theorem dX3_settle_8 : decode cX3_settle 8 = .ok (.aload_n 0, 1) := by decide +kernel
theorem dX3_settle_9 : decode cX3_settle 9 = .ok (.getfield 12, 3) := by decide +kernel
theorem dX3_settle_12 : decode cX3_settle 12 = .ok (.invokevirtual 145, 3) := by decide +kernel
theorem dX3_settle_15 : decode cX3_settle 15 = .ok (.aload_n 0, 1) := by decide +kernel
theorem dX3_settle_16 : decode cX3_settle 16 = .ok (.getfield 12, 3) := by decide +kernel
theorem dX3_settle_19 : decode cX3_settle 19 = .ok (.aload_n 0, 1) := by decide +kernel
theorem dX3_settle_20 : decode cX3_settle 20 = .ok (.getfield 16, 3) := by decide +kernel
theorem dX3_settle_23 : decode cX3_settle 23 = .ok (.invokevirtual 115, 3) := by decide +kernel
theorem dX3_settle_26 : decode cX3_settle 26 = .ok (.iload_n 1, 1) := by decide +kernel
theorem dX3_settle_27 : decode cX3_settle 27 = .ok (.ireturn, 1) := by decide +kernel
theorem dX3_isHead_0 : decode cX3_isHead 0 = .ok (.iload_n 0, 1) := by decide +kernel
theorem dX3_isHead_1 : decode cX3_isHead 1 = .ok (.ifCond .lt 12, 3) := by decide +kernel
theorem dX3_isHead_4 : decode cX3_isHead 4 = .ok (.iload_n 0, 1) := by decide +kernel
theorem dX3_isHead_5 : decode cX3_isHead 5 = .ok (.iconst 4, 1) := by decide +kernel
theorem dX3_isHead_6 : decode cX3_isHead 6 = .ok (.if_icmp .ge 7, 3) := by decide +kernel
theorem dX3_isHead_9 : decode cX3_isHead 9 = .ok (.iconst 1, 1) := by decide +kernel
theorem dX3_isHead_10 : decode cX3_isHead 10 = .ok (.goto 4, 3) := by decide +kernel
theorem dX3_isHead_13 : decode cX3_isHead 13 = .ok (.iconst 0, 1) := by decide +kernel
theorem dX3_isHead_14 : decode cX3_isHead 14 = .ok (.ireturn, 1) := by decide +kernel
theorem dX3_isSector_0 : decode cX3_isSector 0 = .ok (.iload_n 0, 1) := by decide +kernel
theorem dX3_isSector_1 : decode cX3_isSector 1 = .ok (.ifCond .lt 13, 3) := by decide +kernel
theorem dX3_isSector_4 : decode cX3_isSector 4 = .ok (.iload_n 0, 1) := by decide +kernel
theorem dX3_isSector_5 : decode cX3_isSector 5 = .ok (.bipush 64, 2) := by decide +kernel
theorem dX3_isSector_7 : decode cX3_isSector 7 = .ok (.if_icmp .ge 7, 3) := by decide +kernel
theorem dX3_isSector_10 : decode cX3_isSector 10 = .ok (.iconst 1, 1) := by decide +kernel
theorem dX3_isSector_11 : decode cX3_isSector 11 = .ok (.goto 4, 3) := by decide +kernel
theorem dX3_isSector_14 : decode cX3_isSector 14 = .ok (.iconst 0, 1) := by decide +kernel
theorem dX3_isSector_15 : decode cX3_isSector 15 = .ok (.ireturn, 1) := by decide +kernel
theorem dX3_headOf_0 : decode cX3_headOf 0 = .ok (.iload_n 0, 1) := by decide +kernel
theorem dX3_headOf_1 : decode cX3_headOf 1 = .ok (.bipush 16, 2) := by decide +kernel
theorem dX3_headOf_3 : decode cX3_headOf 3 = .ok (.idiv, 1) := by decide +kernel
theorem dX3_headOf_4 : decode cX3_headOf 4 = .ok (.ireturn, 1) := by decide +kernel
theorem dX3_placeOf_0 : decode cX3_placeOf 0 = .ok (.iload_n 0, 1) := by decide +kernel
theorem dX3_placeOf_1 : decode cX3_placeOf 1 = .ok (.bipush 16, 2) := by decide +kernel
theorem dX3_placeOf_3 : decode cX3_placeOf 3 = .ok (.irem, 1) := by decide +kernel
theorem dX3_placeOf_4 : decode cX3_placeOf 4 = .ok (.ireturn, 1) := by decide +kernel
theorem dX3_stepsBetween_0 : decode cX3_stepsBetween 0 = .ok (.iload_n 0, 1) := by decide +kernel
theorem dX3_stepsBetween_1 : decode cX3_stepsBetween 1 = .ok (.invokestatic 148, 3) := by decide +kernel
theorem dX3_stepsBetween_4 : decode cX3_stepsBetween 4 = .ok (.iload_n 1, 1) := by decide +kernel
theorem dX3_stepsBetween_5 : decode cX3_stepsBetween 5 = .ok (.invokestatic 148, 3) := by decide +kernel
theorem dX3_stepsBetween_8 : decode cX3_stepsBetween 8 = .ok (.isub, 1) := by decide +kernel
theorem dX3_stepsBetween_9 : decode cX3_stepsBetween 9 = .ok (.invokestatic 151, 3) := by decide +kernel
theorem dX3_stepsBetween_12 : decode cX3_stepsBetween 12 = .ok (.istore_n 2, 1) := by decide +kernel
theorem dX3_stepsBetween_13 : decode cX3_stepsBetween 13 = .ok (.iload_n 0, 1) := by decide +kernel
theorem dX3_stepsBetween_14 : decode cX3_stepsBetween 14 = .ok (.invokestatic 156, 3) := by decide +kernel
theorem dX3_stepsBetween_17 : decode cX3_stepsBetween 17 = .ok (.iload_n 1, 1) := by decide +kernel
theorem dX3_stepsBetween_18 : decode cX3_stepsBetween 18 = .ok (.invokestatic 156, 3) := by decide +kernel
theorem dX3_stepsBetween_21 : decode cX3_stepsBetween 21 = .ok (.if_icmp .ne 7, 3) := by decide +kernel
theorem dX3_stepsBetween_24 : decode cX3_stepsBetween 24 = .ok (.iload_n 2, 1) := by decide +kernel
theorem dX3_stepsBetween_25 : decode cX3_stepsBetween 25 = .ok (.goto 6, 3) := by decide +kernel
theorem dX3_stepsBetween_28 : decode cX3_stepsBetween 28 = .ok (.iload_n 2, 1) := by decide +kernel
theorem dX3_stepsBetween_29 : decode cX3_stepsBetween 29 = .ok (.iconst 2, 1) := by decide +kernel
theorem dX3_stepsBetween_30 : decode cX3_stepsBetween 30 = .ok (.iadd, 1) := by decide +kernel
theorem dX3_stepsBetween_31 : decode cX3_stepsBetween 31 = .ok (.ireturn, 1) := by decide +kernel
theorem dJ9_abs_0f7a4_0 : decode cJ9_abs_0f7a4 0 = .ok (.iload_n 0, 1) := by decide +kernel
theorem dJ9_abs_0f7a4_1 : decode cJ9_abs_0f7a4 1 = .ok (.ifCond .ge 8, 3) := by decide +kernel
theorem dJ9_abs_0f7a4_4 : decode cJ9_abs_0f7a4 4 = .ok (.iload_n 0, 1) := by decide +kernel
theorem dJ9_abs_0f7a4_5 : decode cJ9_abs_0f7a4 5 = .ok (.ineg, 1) := by decide +kernel
theorem dJ9_abs_0f7a4_6 : decode cJ9_abs_0f7a4 6 = .ok (.goto 4, 3) := by decide +kernel
theorem dJ9_abs_0f7a4_9 : decode cJ9_abs_0f7a4 9 = .ok (.iload_n 0, 1) := by decide +kernel
theorem dJ9_abs_0f7a4_10 : decode cJ9_abs_0f7a4 10 = .ok (.ireturn, 1) := by decide +kernel
theorem dL_cell_0 : decode cL_cell 0 = .ok (.iload_n 1, 1) := by decide +kernel
theorem dL_cell_1 : decode cL_cell 1 = .ok (.aload_n 0, 1) := by decide +kernel
theorem dL_cell_2 : decode cL_cell 2 = .ok (.arraylength, 1) := by decide +kernel
theorem dL_cell_3 : decode cL_cell 3 = .ok (.if_icmp .ge 9, 3) := by decide +kernel
theorem dL_cell_6 : decode cL_cell 6 = .ok (.aload_n 0, 1) := by decide +kernel
theorem dL_cell_7 : decode cL_cell 7 = .ok (.iload_n 1, 1) := by decide +kernel
theorem dL_cell_8 : decode cL_cell 8 = .ok (.iaload, 1) := by decide +kernel
theorem dL_cell_9 : decode cL_cell 9 = .ok (.goto 11, 3) := by decide +kernel
theorem dL_cell_12 : decode cL_cell 12 = .ok (.ldc 7, 2) := by decide +kernel
theorem dL_cell_14 : decode cL_cell 14 = .ok (.iload_n 1, 1) := by decide +kernel
theorem dL_cell_15 : decode cL_cell 15 = .ok (.imul, 1) := by decide +kernel
theorem dL_cell_16 : decode cL_cell 16 = .ok (.sipush 1543, 3) := by decide +kernel
theorem dL_cell_19 : decode cL_cell 19 = .ok (.iadd, 1) := by decide +kernel
theorem dL_cell_20 : decode cL_cell 20 = .ok (.ireturn, 1) := by decide +kernel
theorem dL_low_0 : decode cL_low 0 = .ok (.iload_n 0, 1) := by decide +kernel
theorem dL_low_1 : decode cL_low 1 = .ok (.ldc 8, 2) := by decide +kernel
theorem dL_low_3 : decode cL_low 3 = .ok (.iand, 1) := by decide +kernel
theorem dL_low_4 : decode cL_low 4 = .ok (.iload_n 1, 1) := by decide +kernel
theorem dL_low_5 : decode cL_low 5 = .ok (.irem, 1) := by decide +kernel
theorem dL_low_6 : decode cL_low 6 = .ok (.ireturn, 1) := by decide +kernel
theorem dL_digest_0 : decode cL_digest 0 = .ok (.ldc2_w 9, 3) := by decide +kernel
theorem dL_digest_3 : decode cL_digest 3 = .ok (.lstore_n 1, 1) := by decide +kernel
theorem dL_digest_4 : decode cL_digest 4 = .ok (.iconst 0, 1) := by decide +kernel
theorem dL_digest_5 : decode cL_digest 5 = .ok (.istore_n 3, 1) := by decide +kernel
theorem dL_digest_6 : decode cL_digest 6 = .ok (.iload_n 3, 1) := by decide +kernel
theorem dL_digest_7 : decode cL_digest 7 = .ok (.bipush 12, 2) := by decide +kernel
theorem dL_digest_9 : decode cL_digest 9 = .ok (.if_icmp .ge 22, 3) := by decide +kernel
theorem dL_digest_12 : decode cL_digest 12 = .ok (.ldc2_w 11, 3) := by decide +kernel
theorem dL_digest_15 : decode cL_digest 15 = .ok (.lload_n 1, 1) := by decide +kernel
theorem dL_digest_16 : decode cL_digest 16 = .ok (.lmul, 1) := by decide +kernel
theorem dL_digest_17 : decode cL_digest 17 = .ok (.aload_n 0, 1) := by decide +kernel
theorem dL_digest_18 : decode cL_digest 18 = .ok (.iload_n 3, 1) := by decide +kernel
theorem dL_digest_19 : decode cL_digest 19 = .ok (.invokevirtual 13, 3) := by decide +kernel
theorem dL_digest_22 : decode cL_digest 22 = .ok (.i2l, 1) := by decide +kernel
theorem dL_digest_23 : decode cL_digest 23 = .ok (.ladd, 1) := by decide +kernel
theorem dL_digest_24 : decode cL_digest 24 = .ok (.lstore_n 1, 1) := by decide +kernel
theorem dL_digest_25 : decode cL_digest 25 = .ok (.iinc 3 1, 3) := by decide +kernel
theorem dL_digest_28 : decode cL_digest 28 = .ok (.goto (-22), 3) := by decide +kernel
theorem dL_digest_31 : decode cL_digest 31 = .ok (.iconst 0, 1) := by decide +kernel
theorem dL_digest_32 : decode cL_digest 32 = .ok (.istore_n 3, 1) := by decide +kernel
theorem dL_digest_33 : decode cL_digest 33 = .ok (.iload_n 3, 1) := by decide +kernel
theorem dL_digest_34 : decode cL_digest 34 = .ok (.bipush 64, 2) := by decide +kernel
theorem dL_digest_36 : decode cL_digest 36 = .ok (.if_icmp .ge 73, 3) := by decide +kernel
theorem dL_digest_39 : decode cL_digest 39 = .ok (.ldc2_w 11, 3) := by decide +kernel
theorem dL_digest_42 : decode cL_digest 42 = .ok (.lload_n 1, 1) := by decide +kernel
theorem dL_digest_43 : decode cL_digest 43 = .ok (.lmul, 1) := by decide +kernel
theorem dL_digest_44 : decode cL_digest 44 = .ok (.ldc2_w 19, 3) := by decide +kernel
theorem dL_digest_47 : decode cL_digest 47 = .ok (.aload_n 0, 1) := by decide +kernel
theorem dL_digest_48 : decode cL_digest 48 = .ok (.iload_n 3, 1) := by decide +kernel
theorem dL_digest_49 : decode cL_digest 49 = .ok (.iconst 0, 1) := by decide +kernel
theorem dL_digest_50 : decode cL_digest 50 = .ok (.invokevirtual 21, 3) := by decide +kernel
theorem dL_digest_53 : decode cL_digest 53 = .ok (.i2l, 1) := by decide +kernel
theorem dL_digest_54 : decode cL_digest 54 = .ok (.lmul, 1) := by decide +kernel
theorem dL_digest_55 : decode cL_digest 55 = .ok (.ladd, 1) := by decide +kernel
theorem dL_digest_56 : decode cL_digest 56 = .ok (.aload_n 0, 1) := by decide +kernel
theorem dL_digest_57 : decode cL_digest 57 = .ok (.iload_n 3, 1) := by decide +kernel
theorem dL_digest_58 : decode cL_digest 58 = .ok (.iconst 3, 1) := by decide +kernel
theorem dL_digest_59 : decode cL_digest 59 = .ok (.invokevirtual 21, 3) := by decide +kernel
theorem dL_digest_62 : decode cL_digest 62 = .ok (.i2l, 1) := by decide +kernel
theorem dL_digest_63 : decode cL_digest 63 = .ok (.ladd, 1) := by decide +kernel
theorem dL_digest_64 : decode cL_digest 64 = .ok (.lstore_n 1, 1) := by decide +kernel
theorem dL_digest_65 : decode cL_digest 65 = .ok (.ldc2_w 11, 3) := by decide +kernel
theorem dL_digest_68 : decode cL_digest 68 = .ok (.lload_n 1, 1) := by decide +kernel
theorem dL_digest_69 : decode cL_digest 69 = .ok (.lmul, 1) := by decide +kernel
theorem dL_digest_70 : decode cL_digest 70 = .ok (.ldc2_w 25, 3) := by decide +kernel
theorem dL_digest_73 : decode cL_digest 73 = .ok (.aload_n 0, 1) := by decide +kernel
theorem dL_digest_74 : decode cL_digest 74 = .ok (.iload_n 3, 1) := by decide +kernel
theorem dL_digest_75 : decode cL_digest 75 = .ok (.iconst 0, 1) := by decide +kernel
theorem dL_digest_76 : decode cL_digest 76 = .ok (.invokevirtual 27, 3) := by decide +kernel
theorem dL_digest_79 : decode cL_digest 79 = .ok (.i2l, 1) := by decide +kernel
theorem dL_digest_80 : decode cL_digest 80 = .ok (.lmul, 1) := by decide +kernel
theorem dL_digest_81 : decode cL_digest 81 = .ok (.ladd, 1) := by decide +kernel
theorem dL_digest_82 : decode cL_digest 82 = .ok (.ldc2_w 19, 3) := by decide +kernel
theorem dL_digest_85 : decode cL_digest 85 = .ok (.aload_n 0, 1) := by decide +kernel
theorem dL_digest_86 : decode cL_digest 86 = .ok (.iload_n 3, 1) := by decide +kernel
theorem dL_digest_87 : decode cL_digest 87 = .ok (.iconst 1, 1) := by decide +kernel
theorem dL_digest_88 : decode cL_digest 88 = .ok (.invokevirtual 27, 3) := by decide +kernel
theorem dL_digest_91 : decode cL_digest 91 = .ok (.i2l, 1) := by decide +kernel
theorem dL_digest_92 : decode cL_digest 92 = .ok (.lmul, 1) := by decide +kernel
theorem dL_digest_93 : decode cL_digest 93 = .ok (.ladd, 1) := by decide +kernel
theorem dL_digest_94 : decode cL_digest 94 = .ok (.aload_n 0, 1) := by decide +kernel
theorem dL_digest_95 : decode cL_digest 95 = .ok (.iload_n 3, 1) := by decide +kernel
theorem dL_digest_96 : decode cL_digest 96 = .ok (.iconst 5, 1) := by decide +kernel
theorem dL_digest_97 : decode cL_digest 97 = .ok (.invokevirtual 27, 3) := by decide +kernel
theorem dL_digest_100 : decode cL_digest 100 = .ok (.i2l, 1) := by decide +kernel
theorem dL_digest_101 : decode cL_digest 101 = .ok (.ladd, 1) := by decide +kernel
theorem dL_digest_102 : decode cL_digest 102 = .ok (.lstore_n 1, 1) := by decide +kernel
theorem dL_digest_103 : decode cL_digest 103 = .ok (.iinc 3 1, 3) := by decide +kernel
theorem dL_digest_106 : decode cL_digest 106 = .ok (.goto (-73), 3) := by decide +kernel
theorem dL_digest_109 : decode cL_digest 109 = .ok (.iconst 0, 1) := by decide +kernel
theorem dL_digest_110 : decode cL_digest 110 = .ok (.istore_n 3, 1) := by decide +kernel
theorem dL_digest_111 : decode cL_digest 111 = .ok (.iload_n 3, 1) := by decide +kernel
theorem dL_digest_112 : decode cL_digest 112 = .ok (.iconst 4, 1) := by decide +kernel
theorem dL_digest_113 : decode cL_digest 113 = .ok (.if_icmp .ge 47, 3) := by decide +kernel
theorem dL_digest_116 : decode cL_digest 116 = .ok (.ldc2_w 11, 3) := by decide +kernel
theorem dL_digest_119 : decode cL_digest 119 = .ok (.lload_n 1, 1) := by decide +kernel
theorem dL_digest_120 : decode cL_digest 120 = .ok (.lmul, 1) := by decide +kernel
theorem dL_digest_121 : decode cL_digest 121 = .ok (.ldc2_w 25, 3) := by decide +kernel
theorem dL_digest_124 : decode cL_digest 124 = .ok (.aload_n 0, 1) := by decide +kernel
theorem dL_digest_125 : decode cL_digest 125 = .ok (.iload_n 3, 1) := by decide +kernel
theorem dL_digest_126 : decode cL_digest 126 = .ok (.iconst 0, 1) := by decide +kernel
theorem dL_digest_127 : decode cL_digest 127 = .ok (.invokevirtual 30, 3) := by decide +kernel
theorem dL_digest_130 : decode cL_digest 130 = .ok (.i2l, 1) := by decide +kernel
theorem dL_digest_131 : decode cL_digest 131 = .ok (.lmul, 1) := by decide +kernel
theorem dL_digest_132 : decode cL_digest 132 = .ok (.ladd, 1) := by decide +kernel
theorem dL_digest_133 : decode cL_digest 133 = .ok (.ldc2_w 19, 3) := by decide +kernel
theorem dL_digest_136 : decode cL_digest 136 = .ok (.aload_n 0, 1) := by decide +kernel
theorem dL_digest_137 : decode cL_digest 137 = .ok (.iload_n 3, 1) := by decide +kernel
theorem dL_digest_138 : decode cL_digest 138 = .ok (.iconst 1, 1) := by decide +kernel
theorem dL_digest_139 : decode cL_digest 139 = .ok (.invokevirtual 30, 3) := by decide +kernel
theorem dL_digest_142 : decode cL_digest 142 = .ok (.i2l, 1) := by decide +kernel
theorem dL_digest_143 : decode cL_digest 143 = .ok (.lmul, 1) := by decide +kernel
theorem dL_digest_144 : decode cL_digest 144 = .ok (.ladd, 1) := by decide +kernel
theorem dL_digest_145 : decode cL_digest 145 = .ok (.aload_n 0, 1) := by decide +kernel
theorem dL_digest_146 : decode cL_digest 146 = .ok (.iload_n 3, 1) := by decide +kernel
theorem dL_digest_147 : decode cL_digest 147 = .ok (.iconst 3, 1) := by decide +kernel
theorem dL_digest_148 : decode cL_digest 148 = .ok (.invokevirtual 30, 3) := by decide +kernel
theorem dL_digest_151 : decode cL_digest 151 = .ok (.i2l, 1) := by decide +kernel
theorem dL_digest_152 : decode cL_digest 152 = .ok (.ladd, 1) := by decide +kernel
theorem dL_digest_153 : decode cL_digest 153 = .ok (.lstore_n 1, 1) := by decide +kernel
theorem dL_digest_154 : decode cL_digest 154 = .ok (.iinc 3 1, 3) := by decide +kernel
theorem dL_digest_157 : decode cL_digest 157 = .ok (.goto (-46), 3) := by decide +kernel
theorem dL_digest_160 : decode cL_digest 160 = .ok (.lload_n 1, 1) := by decide +kernel
theorem dL_digest_161 : decode cL_digest 161 = .ok (.lreturn, 1) := by decide +kernel
theorem dL_sectors_0 : decode cL_sectors 0 = .ok (.aload_n 0, 1) := by decide +kernel
theorem dL_sectors_1 : decode cL_sectors 1 = .ok (.iconst 0, 1) := by decide +kernel
theorem dL_sectors_2 : decode cL_sectors 2 = .ok (.invokevirtual 13, 3) := by decide +kernel
theorem dL_sectors_5 : decode cL_sectors 5 = .ok (.istore_n 1, 1) := by decide +kernel
theorem dL_sectors_6 : decode cL_sectors 6 = .ok (.iconst 0, 1) := by decide +kernel
theorem dL_sectors_7 : decode cL_sectors 7 = .ok (.istore_n 2, 1) := by decide +kernel
theorem dL_sectors_8 : decode cL_sectors 8 = .ok (.iconst 0, 1) := by decide +kernel
theorem dL_sectors_9 : decode cL_sectors 9 = .ok (.istore_n 3, 1) := by decide +kernel
theorem dL_sectors_10 : decode cL_sectors 10 = .ok (.iload_n 3, 1) := by decide +kernel
theorem dL_sectors_11 : decode cL_sectors 11 = .ok (.bipush 64, 2) := by decide +kernel
theorem dL_sectors_13 : decode cL_sectors 13 = .ok (.if_icmp .ge 234, 3) := by decide +kernel
theorem dL_sectors_16 : decode cL_sectors 16 = .ok (.iload_n 3, 1) := by decide +kernel
theorem dL_sectors_17 : decode cL_sectors 17 = .ok (.bipush 16, 2) := by decide +kernel
theorem dL_sectors_19 : decode cL_sectors 19 = .ok (.idiv, 1) := by decide +kernel
theorem dL_sectors_20 : decode cL_sectors 20 = .ok (.istore 4, 2) := by decide +kernel
theorem dL_sectors_22 : decode cL_sectors 22 = .ok (.aload_n 0, 1) := by decide +kernel
theorem dL_sectors_23 : decode cL_sectors 23 = .ok (.iload_n 3, 1) := by decide +kernel
theorem dL_sectors_24 : decode cL_sectors 24 = .ok (.iconst 0, 1) := by decide +kernel
theorem dL_sectors_25 : decode cL_sectors 25 = .ok (.invokevirtual 21, 3) := by decide +kernel
theorem dL_sectors_28 : decode cL_sectors 28 = .ok (.istore 5, 2) := by decide +kernel
theorem dL_sectors_30 : decode cL_sectors 30 = .ok (.iload 5, 2) := by decide +kernel
theorem dL_sectors_32 : decode cL_sectors 32 = .ok (.iload_n 1, 1) := by decide +kernel
theorem dL_sectors_33 : decode cL_sectors 33 = .ok (.if_icmp .ge 7, 3) := by decide +kernel
theorem dL_sectors_36 : decode cL_sectors 36 = .ok (.iconst 0, 1) := by decide +kernel
theorem dL_sectors_37 : decode cL_sectors 37 = .ok (.goto 16, 3) := by decide +kernel
theorem dL_sectors_40 : decode cL_sectors 40 = .ok (.iload 5, 2) := by decide +kernel
theorem dL_sectors_42 : decode cL_sectors 42 = .ok (.iconst 2, 1) := by decide +kernel
theorem dL_sectors_43 : decode cL_sectors 43 = .ok (.iload_n 1, 1) := by decide +kernel
theorem dL_sectors_44 : decode cL_sectors 44 = .ok (.imul, 1) := by decide +kernel
theorem dL_sectors_45 : decode cL_sectors 45 = .ok (.if_icmp .ge 7, 3) := by decide +kernel
theorem dL_sectors_48 : decode cL_sectors 48 = .ok (.iconst 1, 1) := by decide +kernel
theorem dL_sectors_49 : decode cL_sectors 49 = .ok (.goto 4, 3) := by decide +kernel
theorem dL_sectors_52 : decode cL_sectors 52 = .ok (.iconst 2, 1) := by decide +kernel
theorem dL_sectors_53 : decode cL_sectors 53 = .ok (.istore 6, 2) := by decide +kernel
theorem dL_sectors_55 : decode cL_sectors 55 = .ok (.aload_n 0, 1) := by decide +kernel
theorem dL_sectors_56 : decode cL_sectors 56 = .ok (.iload_n 3, 1) := by decide +kernel
theorem dL_sectors_57 : decode cL_sectors 57 = .ok (.iconst 3, 1) := by decide +kernel
theorem dL_sectors_58 : decode cL_sectors 58 = .ok (.invokevirtual 21, 3) := by decide +kernel
theorem dL_sectors_61 : decode cL_sectors 61 = .ok (.istore 7, 2) := by decide +kernel
theorem dL_sectors_63 : decode cL_sectors 63 = .ok (.iload_n 3, 1) := by decide +kernel
theorem dL_sectors_64 : decode cL_sectors 64 = .ok (.bipush 16, 2) := by decide +kernel
theorem dL_sectors_66 : decode cL_sectors 66 = .ok (.irem, 1) := by decide +kernel
theorem dL_sectors_67 : decode cL_sectors 67 = .ok (.bipush 16, 2) := by decide +kernel
theorem dL_sectors_69 : decode cL_sectors 69 = .ok (.aload_n 0, 1) := by decide +kernel
theorem dL_sectors_70 : decode cL_sectors 70 = .ok (.iload 4, 2) := by decide +kernel
theorem dL_sectors_72 : decode cL_sectors 72 = .ok (.iconst 1, 1) := by decide +kernel
theorem dL_sectors_73 : decode cL_sectors 73 = .ok (.invokevirtual 30, 3) := by decide +kernel
theorem dL_sectors_76 : decode cL_sectors 76 = .ok (.isub, 1) := by decide +kernel
theorem dL_sectors_77 : decode cL_sectors 77 = .ok (.if_icmp .lt 7, 3) := by decide +kernel
theorem dL_sectors_80 : decode cL_sectors 80 = .ok (.iconst 1, 1) := by decide +kernel
theorem dL_sectors_81 : decode cL_sectors 81 = .ok (.goto 4, 3) := by decide +kernel
theorem dL_sectors_84 : decode cL_sectors 84 = .ok (.iconst 0, 1) := by decide +kernel
theorem dL_sectors_85 : decode cL_sectors 85 = .ok (.istore 8, 2) := by decide +kernel
theorem dL_sectors_87 : decode cL_sectors 87 = .ok (.iload 8, 2) := by decide +kernel
theorem dL_sectors_89 : decode cL_sectors 89 = .ok (.ifCond .eq 29, 3) := by decide +kernel
theorem dL_sectors_92 : decode cL_sectors 92 = .ok (.iload 7, 2) := by decide +kernel
theorem dL_sectors_94 : decode cL_sectors 94 = .ok (.bipush (-5), 2) := by decide +kernel
theorem dL_sectors_96 : decode cL_sectors 96 = .ok (.if_icmp .ne 22, 3) := by decide +kernel
theorem dL_sectors_99 : decode cL_sectors 99 = .ok (.iload 6, 2) := by decide +kernel
theorem dL_sectors_101 : decode cL_sectors 101 = .ok (.ifCond .ne 17, 3) := by decide +kernel
theorem dL_sectors_104 : decode cL_sectors 104 = .ok (.aload_n 0, 1) := by decide +kernel
theorem dL_sectors_105 : decode cL_sectors 105 = .ok (.iload 4, 2) := by decide +kernel
theorem dL_sectors_107 : decode cL_sectors 107 = .ok (.iconst 3, 1) := by decide +kernel
theorem dL_sectors_108 : decode cL_sectors 108 = .ok (.invokevirtual 30, 3) := by decide +kernel
theorem dL_sectors_111 : decode cL_sectors 111 = .ok (.ifCond .ne 7, 3) := by decide +kernel
theorem dL_sectors_114 : decode cL_sectors 114 = .ok (.iconst 1, 1) := by decide +kernel
theorem dL_sectors_115 : decode cL_sectors 115 = .ok (.goto 4, 3) := by decide +kernel
theorem dL_sectors_118 : decode cL_sectors 118 = .ok (.iconst 0, 1) := by decide +kernel
theorem dL_sectors_119 : decode cL_sectors 119 = .ok (.istore 9, 2) := by decide +kernel
theorem dL_sectors_121 : decode cL_sectors 121 = .ok (.aload_n 0, 1) := by decide +kernel
theorem dL_sectors_122 : decode cL_sectors 122 = .ok (.iload_n 3, 1) := by decide +kernel
theorem dL_sectors_123 : decode cL_sectors 123 = .ok (.iconst 1, 1) := by decide +kernel
theorem dL_sectors_124 : decode cL_sectors 124 = .ok (.invokevirtual 21, 3) := by decide +kernel
theorem dL_sectors_127 : decode cL_sectors 127 = .ok (.iload 6, 2) := by decide +kernel
theorem dL_sectors_129 : decode cL_sectors 129 = .ok (.if_icmp .ne 97, 3) := by decide +kernel
theorem dL_sectors_132 : decode cL_sectors 132 = .ok (.aload_n 0, 1) := by decide +kernel
theorem dL_sectors_133 : decode cL_sectors 133 = .ok (.iload_n 3, 1) := by decide +kernel
theorem dL_sectors_134 : decode cL_sectors 134 = .ok (.iconst 2, 1) := by decide +kernel
theorem dL_sectors_135 : decode cL_sectors 135 = .ok (.invokevirtual 21, 3) := by decide +kernel
theorem dL_sectors_138 : decode cL_sectors 138 = .ok (.iconst 1, 1) := by decide +kernel
theorem dL_sectors_139 : decode cL_sectors 139 = .ok (.if_icmp .ne 7, 3) := by decide +kernel
theorem dL_sectors_142 : decode cL_sectors 142 = .ok (.iconst 1, 1) := by decide +kernel
theorem dL_sectors_143 : decode cL_sectors 143 = .ok (.goto 4, 3) := by decide +kernel
theorem dL_sectors_146 : decode cL_sectors 146 = .ok (.iconst 0, 1) := by decide +kernel
theorem dL_sectors_147 : decode cL_sectors 147 = .ok (.iload 8, 2) := by decide +kernel
theorem dL_sectors_149 : decode cL_sectors 149 = .ok (.if_icmp .ne 77, 3) := by decide +kernel
theorem dL_sectors_152 : decode cL_sectors 152 = .ok (.aload_n 0, 1) := by decide +kernel
theorem dL_sectors_153 : decode cL_sectors 153 = .ok (.iload_n 3, 1) := by decide +kernel
theorem dL_sectors_154 : decode cL_sectors 154 = .ok (.iconst 4, 1) := by decide +kernel
theorem dL_sectors_155 : decode cL_sectors 155 = .ok (.invokevirtual 21, 3) := by decide +kernel
theorem dL_sectors_158 : decode cL_sectors 158 = .ok (.iconst 1, 1) := by decide +kernel
theorem dL_sectors_159 : decode cL_sectors 159 = .ok (.if_icmp .ne 7, 3) := by decide +kernel
theorem dL_sectors_162 : decode cL_sectors 162 = .ok (.iconst 1, 1) := by decide +kernel
theorem dL_sectors_163 : decode cL_sectors 163 = .ok (.goto 4, 3) := by decide +kernel
theorem dL_sectors_166 : decode cL_sectors 166 = .ok (.iconst 0, 1) := by decide +kernel
theorem dL_sectors_167 : decode cL_sectors 167 = .ok (.iload 9, 2) := by decide +kernel
theorem dL_sectors_169 : decode cL_sectors 169 = .ok (.if_icmp .ne 57, 3) := by decide +kernel
theorem dL_sectors_172 : decode cL_sectors 172 = .ok (.iload 7, 2) := by decide +kernel
theorem dL_sectors_174 : decode cL_sectors 174 = .ok (.bipush (-5), 2) := by decide +kernel
theorem dL_sectors_176 : decode cL_sectors 176 = .ok (.if_icmp .eq 14, 3) := by decide +kernel
theorem dL_sectors_179 : decode cL_sectors 179 = .ok (.aload_n 0, 1) := by decide +kernel
theorem dL_sectors_180 : decode cL_sectors 180 = .ok (.iload 7, 2) := by decide +kernel
theorem dL_sectors_182 : decode cL_sectors 182 = .ok (.iconst 1, 1) := by decide +kernel
theorem dL_sectors_183 : decode cL_sectors 183 = .ok (.invokevirtual 27, 3) := by decide +kernel
theorem dL_sectors_186 : decode cL_sectors 186 = .ok (.iload_n 3, 1) := by decide +kernel
theorem dL_sectors_187 : decode cL_sectors 187 = .ok (.if_icmp .ne 39, 3) := by decide +kernel
theorem dL_sectors_190 : decode cL_sectors 190 = .ok (.iload 8, 2) := by decide +kernel
theorem dL_sectors_192 : decode cL_sectors 192 = .ok (.ifCond .ne 16, 3) := by decide +kernel
theorem dL_sectors_195 : decode cL_sectors 195 = .ok (.iload 7, 2) := by decide +kernel
theorem dL_sectors_197 : decode cL_sectors 197 = .ok (.bipush (-5), 2) := by decide +kernel
theorem dL_sectors_199 : decode cL_sectors 199 = .ok (.if_icmp .eq 9, 3) := by decide +kernel
theorem dL_sectors_202 : decode cL_sectors 202 = .ok (.iload 7, 2) := by decide +kernel
theorem dL_sectors_204 : decode cL_sectors 204 = .ok (.iload_n 3, 1) := by decide +kernel
theorem dL_sectors_205 : decode cL_sectors 205 = .ok (.if_icmp .ne 21, 3) := by decide +kernel
theorem dL_sectors_208 : decode cL_sectors 208 = .ok (.aload_n 0, 1) := by decide +kernel
theorem dL_sectors_209 : decode cL_sectors 209 = .ok (.iload 4, 2) := by decide +kernel
theorem dL_sectors_211 : decode cL_sectors 211 = .ok (.iconst 3, 1) := by decide +kernel
theorem dL_sectors_212 : decode cL_sectors 212 = .ok (.invokevirtual 30, 3) := by decide +kernel
theorem dL_sectors_215 : decode cL_sectors 215 = .ok (.iconst 1, 1) := by decide +kernel
theorem dL_sectors_216 : decode cL_sectors 216 = .ok (.if_icmp .ne 12, 3) := by decide +kernel
theorem dL_sectors_219 : decode cL_sectors 219 = .ok (.iload 7, 2) := by decide +kernel
theorem dL_sectors_221 : decode cL_sectors 221 = .ok (.bipush (-5), 2) := by decide +kernel
theorem dL_sectors_223 : decode cL_sectors 223 = .ok (.if_icmp .eq 5, 3) := by decide +kernel
theorem dL_sectors_226 : decode cL_sectors 226 = .ok (.iconst 0, 1) := by decide +kernel
theorem dL_sectors_227 : decode cL_sectors 227 = .ok (.ireturn, 1) := by decide +kernel
theorem dL_sectors_228 : decode cL_sectors 228 = .ok (.iload_n 2, 1) := by decide +kernel
theorem dL_sectors_229 : decode cL_sectors 229 = .ok (.iload 9, 2) := by decide +kernel
theorem dL_sectors_231 : decode cL_sectors 231 = .ok (.ifCond .eq 7, 3) := by decide +kernel
theorem dL_sectors_234 : decode cL_sectors 234 = .ok (.iconst 1, 1) := by decide +kernel
theorem dL_sectors_235 : decode cL_sectors 235 = .ok (.goto 4, 3) := by decide +kernel
theorem dL_sectors_238 : decode cL_sectors 238 = .ok (.iconst 0, 1) := by decide +kernel
theorem dL_sectors_239 : decode cL_sectors 239 = .ok (.iadd, 1) := by decide +kernel
theorem dL_sectors_240 : decode cL_sectors 240 = .ok (.istore_n 2, 1) := by decide +kernel
theorem dL_sectors_241 : decode cL_sectors 241 = .ok (.iinc 3 1, 3) := by decide +kernel
theorem dL_sectors_244 : decode cL_sectors 244 = .ok (.goto (-234), 3) := by decide +kernel
theorem dL_sectors_247 : decode cL_sectors 247 = .ok (.aload_n 0, 1) := by decide +kernel
theorem dL_sectors_248 : decode cL_sectors 248 = .ok (.iconst 4, 1) := by decide +kernel
theorem dL_sectors_249 : decode cL_sectors 249 = .ok (.invokevirtual 13, 3) := by decide +kernel
theorem dL_sectors_252 : decode cL_sectors 252 = .ok (.iload_n 2, 1) := by decide +kernel
theorem dL_sectors_253 : decode cL_sectors 253 = .ok (.if_icmp .ne 29, 3) := by decide +kernel
theorem dL_sectors_256 : decode cL_sectors 256 = .ok (.aload_n 0, 1) := by decide +kernel
theorem dL_sectors_257 : decode cL_sectors 257 = .ok (.bipush 64, 2) := by decide +kernel
theorem dL_sectors_259 : decode cL_sectors 259 = .ok (.iconst 0, 1) := by decide +kernel
theorem dL_sectors_260 : decode cL_sectors 260 = .ok (.invokevirtual 21, 3) := by decide +kernel
theorem dL_sectors_263 : decode cL_sectors 263 = .ok (.iconst (-1), 1) := by decide +kernel
theorem dL_sectors_264 : decode cL_sectors 264 = .ok (.if_icmp .ne 18, 3) := by decide +kernel
theorem dL_sectors_267 : decode cL_sectors 267 = .ok (.aload_n 0, 1) := by decide +kernel
theorem dL_sectors_268 : decode cL_sectors 268 = .ok (.iconst 0, 1) := by decide +kernel
theorem dL_sectors_269 : decode cL_sectors 269 = .ok (.iconst 5, 1) := by decide +kernel
theorem dL_sectors_270 : decode cL_sectors 270 = .ok (.invokevirtual 21, 3) := by decide +kernel
theorem dL_sectors_273 : decode cL_sectors 273 = .ok (.bipush (-2), 2) := by decide +kernel
theorem dL_sectors_275 : decode cL_sectors 275 = .ok (.if_icmp .ne 7, 3) := by decide +kernel
theorem dL_sectors_278 : decode cL_sectors 278 = .ok (.iconst 1, 1) := by decide +kernel
theorem dL_sectors_279 : decode cL_sectors 279 = .ok (.goto 4, 3) := by decide +kernel
theorem dL_sectors_282 : decode cL_sectors 282 = .ok (.iconst 0, 1) := by decide +kernel
theorem dL_sectors_283 : decode cL_sectors 283 = .ok (.ireturn, 1) := by decide +kernel
theorem dL_lends_0 : decode cL_lends 0 = .ok (.iload_n 1, 1) := by decide +kernel
theorem dL_lends_1 : decode cL_lends 1 = .ok (.istore_n 2, 1) := by decide +kernel
theorem dL_lends_2 : decode cL_lends 2 = .ok (.aload_n 0, 1) := by decide +kernel
theorem dL_lends_3 : decode cL_lends 3 = .ok (.iload_n 1, 1) := by decide +kernel
theorem dL_lends_4 : decode cL_lends 4 = .ok (.iconst 2, 1) := by decide +kernel
theorem dL_lends_5 : decode cL_lends 5 = .ok (.invokevirtual 30, 3) := by decide +kernel
theorem dL_lends_8 : decode cL_lends 8 = .ok (.ifCond .ne 39, 3) := by decide +kernel
theorem dL_lends_11 : decode cL_lends 11 = .ok (.iconst 0, 1) := by decide +kernel
theorem dL_lends_12 : decode cL_lends 12 = .ok (.istore_n 2, 1) := by decide +kernel
theorem dL_lends_13 : decode cL_lends 13 = .ok (.iconst 1, 1) := by decide +kernel
theorem dL_lends_14 : decode cL_lends 14 = .ok (.istore_n 3, 1) := by decide +kernel
theorem dL_lends_15 : decode cL_lends 15 = .ok (.iload_n 3, 1) := by decide +kernel
theorem dL_lends_16 : decode cL_lends 16 = .ok (.iconst 4, 1) := by decide +kernel
theorem dL_lends_17 : decode cL_lends 17 = .ok (.if_icmp .ge 30, 3) := by decide +kernel
theorem dL_lends_20 : decode cL_lends 20 = .ok (.aload_n 0, 1) := by decide +kernel
theorem dL_lends_21 : decode cL_lends 21 = .ok (.iload_n 3, 1) := by decide +kernel
theorem dL_lends_22 : decode cL_lends 22 = .ok (.iconst 2, 1) := by decide +kernel
theorem dL_lends_23 : decode cL_lends 23 = .ok (.invokevirtual 30, 3) := by decide +kernel
theorem dL_lends_26 : decode cL_lends 26 = .ok (.aload_n 0, 1) := by decide +kernel
theorem dL_lends_27 : decode cL_lends 27 = .ok (.iload_n 2, 1) := by decide +kernel
theorem dL_lends_28 : decode cL_lends 28 = .ok (.iconst 2, 1) := by decide +kernel
theorem dL_lends_29 : decode cL_lends 29 = .ok (.invokevirtual 30, 3) := by decide +kernel
theorem dL_lends_32 : decode cL_lends 32 = .ok (.if_icmp .le 7, 3) := by decide +kernel
theorem dL_lends_35 : decode cL_lends 35 = .ok (.iload_n 3, 1) := by decide +kernel
theorem dL_lends_36 : decode cL_lends 36 = .ok (.goto 4, 3) := by decide +kernel
theorem dL_lends_39 : decode cL_lends 39 = .ok (.iload_n 2, 1) := by decide +kernel
theorem dL_lends_40 : decode cL_lends 40 = .ok (.istore_n 2, 1) := by decide +kernel
theorem dL_lends_41 : decode cL_lends 41 = .ok (.iinc 3 1, 3) := by decide +kernel
theorem dL_lends_44 : decode cL_lends 44 = .ok (.goto (-29), 3) := by decide +kernel
theorem dL_lends_47 : decode cL_lends 47 = .ok (.iconst 0, 1) := by decide +kernel
theorem dL_lends_48 : decode cL_lends 48 = .ok (.istore_n 3, 1) := by decide +kernel
theorem dL_lends_49 : decode cL_lends 49 = .ok (.iload_n 3, 1) := by decide +kernel
theorem dL_lends_50 : decode cL_lends 50 = .ok (.bipush 16, 2) := by decide +kernel
theorem dL_lends_52 : decode cL_lends 52 = .ok (.if_icmp .ge 31, 3) := by decide +kernel
theorem dL_lends_55 : decode cL_lends 55 = .ok (.aload_n 0, 1) := by decide +kernel
theorem dL_lends_56 : decode cL_lends 56 = .ok (.bipush 16, 2) := by decide +kernel
theorem dL_lends_58 : decode cL_lends 58 = .ok (.iload_n 2, 1) := by decide +kernel
theorem dL_lends_59 : decode cL_lends 59 = .ok (.imul, 1) := by decide +kernel
theorem dL_lends_60 : decode cL_lends 60 = .ok (.iload_n 3, 1) := by decide +kernel
theorem dL_lends_61 : decode cL_lends 61 = .ok (.iadd, 1) := by decide +kernel
theorem dL_lends_62 : decode cL_lends 62 = .ok (.iconst 4, 1) := by decide +kernel
theorem dL_lends_63 : decode cL_lends 63 = .ok (.invokevirtual 21, 3) := by decide +kernel
theorem dL_lends_66 : decode cL_lends 66 = .ok (.iconst 1, 1) := by decide +kernel
