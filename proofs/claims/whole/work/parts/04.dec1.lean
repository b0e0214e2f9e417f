theorem dX1_init_0 : decode cX1_init 0 = .ok (.aload_n 0, 1) := by decide +kernel
theorem dX1_init_1 : decode cX1_init 1 = .ok (.invokespecial 3, 3) := by decide +kernel
theorem dX1_init_4 : decode cX1_init 4 = .ok (.aload_n 0, 1) := by decide +kernel
theorem dX1_init_5 : decode cX1_init 5 = .ok (.bipush 12, 2) := by decide +kernel
theorem dX1_init_7 : decode cX1_init 7 = .ok (.newarray .int, 2) := by decide +kernel
theorem dX1_init_9 : decode cX1_init 9 = .ok (.putfield 11, 3) := by decide +kernel
theorem dX1_init_12 : decode cX1_init 12 = .ok (.aload_n 0, 1) := by decide +kernel
theorem dX1_init_13 : decode cX1_init 13 = .ok (.bipush 12, 2) := by decide +kernel
theorem dX1_init_15 : decode cX1_init 15 = .ok (.newarray .int, 2) := by decide +kernel
theorem dX1_init_17 : decode cX1_init 17 = .ok (.putfield 15, 3) := by decide +kernel
theorem dX1_init_20 : decode cX1_init 20 = .ok (.aload_n 0, 1) := by decide +kernel
theorem dX1_init_21 : decode cX1_init 21 = .ok (.bipush 36, 2) := by decide +kernel
theorem dX1_init_23 : decode cX1_init 23 = .ok (.newarray .int, 2) := by decide +kernel
theorem dX1_init_25 : decode cX1_init 25 = .ok (.putfield 18, 3) := by decide +kernel
theorem dX1_init_28 : decode cX1_init 28 = .ok (.aload_n 0, 1) := by decide +kernel
theorem dX1_init_29 : decode cX1_init 29 = .ok (.bipush 20, 2) := by decide +kernel
theorem dX1_init_31 : decode cX1_init 31 = .ok (.newarray .int, 2) := by decide +kernel
theorem dX1_init_33 : decode cX1_init 33 = .ok (.putfield 21, 3) := by decide +kernel
theorem dX1_init_36 : decode cX1_init 36 = .ok (.aload_n 0, 1) := by decide +kernel
theorem dX1_init_37 : decode cX1_init 37 = .ok (.bipush 20, 2) := by decide +kernel
theorem dX1_init_39 : decode cX1_init 39 = .ok (.newarray .int, 2) := by decide +kernel
theorem dX1_init_41 : decode cX1_init 41 = .ok (.putfield 24, 3) := by decide +kernel
theorem dX1_init_44 : decode cX1_init 44 = .ok (.aload_n 0, 1) := by decide +kernel
theorem dX1_init_45 : decode cX1_init 45 = .ok (.bipush 20, 2) := by decide +kernel
theorem dX1_init_47 : decode cX1_init 47 = .ok (.newarray .int, 2) := by decide +kernel
theorem dX1_init_49 : decode cX1_init 49 = .ok (.putfield 27, 3) := by decide +kernel
theorem dX1_init_52 : decode cX1_init 52 = .ok (.aload_n 0, 1) := by decide +kernel
theorem dX1_init_53 : decode cX1_init 53 = .ok (.bipush 8, 2) := by decide +kernel
theorem dX1_init_55 : decode cX1_init 55 = .ok (.newarray .int, 2) := by decide +kernel
theorem dX1_init_57 : decode cX1_init 57 = .ok (.putfield 30, 3) := by decide +kernel
theorem dX1_init_60 : decode cX1_init 60 = .ok (.aload_n 0, 1) := by decide +kernel
theorem dX1_init_61 : decode cX1_init 61 = .ok (.bipush 8, 2) := by decide +kernel
theorem dX1_init_63 : decode cX1_init 63 = .ok (.newarray .int, 2) := by decide +kernel
theorem dX1_init_65 : decode cX1_init 65 = .ok (.putfield 33, 3) := by decide +kernel
theorem dX1_init_68 : decode cX1_init 68 = .ok (.aload_n 0, 1) := by decide +kernel
theorem dX1_init_69 : decode cX1_init 69 = .ok (.bipush 8, 2) := by decide +kernel
theorem dX1_init_71 : decode cX1_init 71 = .ok (.newarray .int, 2) := by decide +kernel
theorem dX1_init_73 : decode cX1_init 73 = .ok (.putfield 36, 3) := by decide +kernel
theorem dX1_init_76 : decode cX1_init 76 = .ok (.aload_n 0, 1) := by decide +kernel
theorem dX1_init_77 : decode cX1_init 77 = .ok (.bipush 8, 2) := by decide +kernel
theorem dX1_init_79 : decode cX1_init 79 = .ok (.newarray .int, 2) := by decide +kernel
theorem dX1_init_81 : decode cX1_init 81 = .ok (.putfield 39, 3) := by decide +kernel
theorem dX1_init_84 : decode cX1_init 84 = .ok (.aload_n 0, 1) := by decide +kernel
theorem dX1_init_85 : decode cX1_init 85 = .ok (.bipush 8, 2) := by decide +kernel
theorem dX1_init_87 : decode cX1_init 87 = .ok (.newarray .int, 2) := by decide +kernel
theorem dX1_init_89 : decode cX1_init 89 = .ok (.putfield 42, 3) := by decide +kernel
theorem dX1_init_92 : decode cX1_init 92 = .ok (.aload_n 0, 1) := by decide +kernel
theorem dX1_init_93 : decode cX1_init 93 = .ok (.iconst 3, 1) := by decide +kernel
theorem dX1_init_94 : decode cX1_init 94 = .ok (.newarray .int, 2) := by decide +kernel
theorem dX1_init_96 : decode cX1_init 96 = .ok (.dup, 1) := by decide +kernel
theorem dX1_init_97 : decode cX1_init 97 = .ok (.iconst 0, 1) := by decide +kernel
theorem dX1_init_98 : decode cX1_init 98 = .ok (.iconst 0, 1) := by decide +kernel
theorem dX1_init_99 : decode cX1_init 99 = .ok (.iastore, 1) := by decide +kernel
theorem dX1_init_100 : decode cX1_init 100 = .ok (.dup, 1) := by decide +kernel
theorem dX1_init_101 : decode cX1_init 101 = .ok (.iconst 1, 1) := by decide +kernel
theorem dX1_init_102 : decode cX1_init 102 = .ok (.bipush 50, 2) := by decide +kernel
theorem dX1_init_104 : decode cX1_init 104 = .ok (.iastore, 1) := by decide +kernel
theorem dX1_init_105 : decode cX1_init 105 = .ok (.dup, 1) := by decide +kernel
theorem dX1_init_106 : decode cX1_init 106 = .ok (.iconst 2, 1) := by decide +kernel
theorem dX1_init_107 : decode cX1_init 107 = .ok (.bipush 100, 2) := by decide +kernel
theorem dX1_init_109 : decode cX1_init 109 = .ok (.iastore, 1) := by decide +kernel
theorem dX1_init_110 : decode cX1_init 110 = .ok (.putfield 45, 3) := by decide +kernel
theorem dX1_init_113 : decode cX1_init 113 = .ok (.aload_n 0, 1) := by decide +kernel
theorem dX1_init_114 : decode cX1_init 114 = .ok (.sipush 240, 3) := by decide +kernel
theorem dX1_init_117 : decode cX1_init 117 = .ok (.newarray .int, 2) := by decide +kernel
theorem dX1_init_119 : decode cX1_init 119 = .ok (.putfield 48, 3) := by decide +kernel
theorem dX1_init_122 : decode cX1_init 122 = .ok (.aload_n 0, 1) := by decide +kernel
theorem dX1_init_123 : decode cX1_init 123 = .ok (.sipush 240, 3) := by decide +kernel
theorem dX1_init_126 : decode cX1_init 126 = .ok (.newarray .int, 2) := by decide +kernel
theorem dX1_init_128 : decode cX1_init 128 = .ok (.putfield 51, 3) := by decide +kernel
theorem dX1_init_131 : decode cX1_init 131 = .ok (.aload_n 0, 1) := by decide +kernel
theorem dX1_init_132 : decode cX1_init 132 = .ok (.bipush 20, 2) := by decide +kernel
theorem dX1_init_134 : decode cX1_init 134 = .ok (.newarray .int, 2) := by decide +kernel
theorem dX1_init_136 : decode cX1_init 136 = .ok (.putfield 54, 3) := by decide +kernel
theorem dX1_init_139 : decode cX1_init 139 = .ok (.aload_n 0, 1) := by decide +kernel
theorem dX1_init_140 : decode cX1_init 140 = .ok (.bipush 30, 2) := by decide +kernel
theorem dX1_init_142 : decode cX1_init 142 = .ok (.putfield 57, 3) := by decide +kernel
theorem dX1_init_145 : decode cX1_init 145 = .ok (.return_, 1) := by decide +kernel
theorem dX1_pieceCount_0 : decode cX1_pieceCount 0 = .ok (.aload_n 0, 1) := by decide +kernel
theorem dX1_pieceCount_1 : decode cX1_pieceCount 1 = .ok (.getfield 61, 3) := by decide +kernel
theorem dX1_pieceCount_4 : decode cX1_pieceCount 4 = .ok (.ireturn, 1) := by decide +kernel
theorem dX1_houseCount_0 : decode cX1_houseCount 0 = .ok (.aload_n 0, 1) := by decide +kernel
theorem dX1_houseCount_1 : decode cX1_houseCount 1 = .ok (.getfield 64, 3) := by decide +kernel
theorem dX1_houseCount_4 : decode cX1_houseCount 4 = .ok (.ireturn, 1) := by decide +kernel
theorem dX1_wallCount_0 : decode cX1_wallCount 0 = .ok (.aload_n 0, 1) := by decide +kernel
theorem dX1_wallCount_1 : decode cX1_wallCount 1 = .ok (.getfield 67, 3) := by decide +kernel
theorem dX1_wallCount_4 : decode cX1_wallCount 4 = .ok (.ireturn, 1) := by decide +kernel
theorem dX1_hasPiece_0 : decode cX1_hasPiece 0 = .ok (.iload_n 1, 1) := by decide +kernel
theorem dX1_hasPiece_1 : decode cX1_hasPiece 1 = .ok (.ifCond .lt 15, 3) := by decide +kernel
theorem dX1_hasPiece_4 : decode cX1_hasPiece 4 = .ok (.iload_n 1, 1) := by decide +kernel
theorem dX1_hasPiece_5 : decode cX1_hasPiece 5 = .ok (.aload_n 0, 1) := by decide +kernel
theorem dX1_hasPiece_6 : decode cX1_hasPiece 6 = .ok (.getfield 61, 3) := by decide +kernel
theorem dX1_hasPiece_9 : decode cX1_hasPiece 9 = .ok (.if_icmp .ge 7, 3) := by decide +kernel
theorem dX1_hasPiece_12 : decode cX1_hasPiece 12 = .ok (.iconst 1, 1) := by decide +kernel
theorem dX1_hasPiece_13 : decode cX1_hasPiece 13 = .ok (.goto 4, 3) := by decide +kernel
theorem dX1_hasPiece_16 : decode cX1_hasPiece 16 = .ok (.iconst 0, 1) := by decide +kernel
theorem dX1_hasPiece_17 : decode cX1_hasPiece 17 = .ok (.ireturn, 1) := by decide +kernel
theorem dX1_hasHouse_0 : decode cX1_hasHouse 0 = .ok (.iload_n 1, 1) := by decide +kernel
theorem dX1_hasHouse_1 : decode cX1_hasHouse 1 = .ok (.ifCond .lt 15, 3) := by decide +kernel
theorem dX1_hasHouse_4 : decode cX1_hasHouse 4 = .ok (.iload_n 1, 1) := by decide +kernel
theorem dX1_hasHouse_5 : decode cX1_hasHouse 5 = .ok (.aload_n 0, 1) := by decide +kernel
theorem dX1_hasHouse_6 : decode cX1_hasHouse 6 = .ok (.getfield 64, 3) := by decide +kernel
theorem dX1_hasHouse_9 : decode cX1_hasHouse 9 = .ok (.if_icmp .ge 7, 3) := by decide +kernel
theorem dX1_hasHouse_12 : decode cX1_hasHouse 12 = .ok (.iconst 1, 1) := by decide +kernel
theorem dX1_hasHouse_13 : decode cX1_hasHouse 13 = .ok (.goto 4, 3) := by decide +kernel
theorem dX1_hasHouse_16 : decode cX1_hasHouse 16 = .ok (.iconst 0, 1) := by decide +kernel
theorem dX1_hasHouse_17 : decode cX1_hasHouse 17 = .ok (.ireturn, 1) := by decide +kernel
theorem dX1_hasWall_0 : decode cX1_hasWall 0 = .ok (.iload_n 1, 1) := by decide +kernel
theorem dX1_hasWall_1 : decode cX1_hasWall 1 = .ok (.ifCond .lt 15, 3) := by decide +kernel
theorem dX1_hasWall_4 : decode cX1_hasWall 4 = .ok (.iload_n 1, 1) := by decide +kernel
theorem dX1_hasWall_5 : decode cX1_hasWall 5 = .ok (.aload_n 0, 1) := by decide +kernel
theorem dX1_hasWall_6 : decode cX1_hasWall 6 = .ok (.getfield 67, 3) := by decide +kernel
theorem dX1_hasWall_9 : decode cX1_hasWall 9 = .ok (.if_icmp .ge 7, 3) := by decide +kernel
theorem dX1_hasWall_12 : decode cX1_hasWall 12 = .ok (.iconst 1, 1) := by decide +kernel
theorem dX1_hasWall_13 : decode cX1_hasWall 13 = .ok (.goto 4, 3) := by decide +kernel
theorem dX1_hasWall_16 : decode cX1_hasWall 16 = .ok (.iconst 0, 1) := by decide +kernel
theorem dX1_hasWall_17 : decode cX1_hasWall 17 = .ok (.ireturn, 1) := by decide +kernel
set_option maxRecDepth 20000 in
theorem ggX1_addPiece_X1_measurePair : GoodIn wsX1_addPiece wsX1_measurePair := goodIn_r _ [10, 2, 11, 3, 12, 13, 14, 15, 16, 9, 17, 18, 19, 20, 21, 22, 23, 24, 25, 26, 27, 28, 29, 30, 31, 32, 33, 34, 35, 36, 37, 38, 39, 40, 41, 42, 43, 44, 45, 46, 47, 48, 49, 50, 51, 52, 53, 54, 55, 56, 57, 58, 59, 60, 61, 62, 63, 64, 65, 66, 67, 68] (by decide +kernel) (by decide +kernel)
set_option maxRecDepth 20000 in
theorem gX1_addPiece_X1_measurePair : GoodIn wsX1_addPiece (wsV RX1 70 RX1 yX1_measurePair wsX1_measurePair) := goodIn_app (goodIn_of _ (by decide +kernel)) ggX1_addPiece_X1_measurePair
theorem dX1_addPiece_0 : decode cX1_addPiece 0 = .ok (.aload_n 0, 1) := by decide +kernel
theorem dX1_addPiece_1 : decode cX1_addPiece 1 = .ok (.getfield 61, 3) := by decide +kernel
theorem dX1_addPiece_4 : decode cX1_addPiece 4 = .ok (.bipush 12, 2) := by decide +kernel
theorem dX1_addPiece_6 : decode cX1_addPiece 6 = .ok (.if_icmp .lt 5, 3) := by decide +kernel
theorem dX1_addPiece_9 : decode cX1_addPiece 9 = .ok (.iconst (-1), 1) := by decide +kernel
theorem dX1_addPiece_10 : decode cX1_addPiece 10 = .ok (.ireturn, 1) := by decide +kernel
theorem dX1_addPiece_11 : decode cX1_addPiece 11 = .ok (.aload_n 0, 1) := by decide +kernel
theorem dX1_addPiece_12 : decode cX1_addPiece 12 = .ok (.getfield 61, 3) := by decide +kernel
theorem dX1_addPiece_15 : decode cX1_addPiece 15 = .ok (.istore 6, 2) := by decide +kernel
theorem dX1_addPiece_17 : decode cX1_addPiece 17 = .ok (.aload_n 0, 1) := by decide +kernel
theorem dX1_addPiece_18 : decode cX1_addPiece 18 = .ok (.dup, 1) := by decide +kernel
theorem dX1_addPiece_19 : decode cX1_addPiece 19 = .ok (.getfield 61, 3) := by decide +kernel
theorem dX1_addPiece_22 : decode cX1_addPiece 22 = .ok (.iconst 1, 1) := by decide +kernel
theorem dX1_addPiece_23 : decode cX1_addPiece 23 = .ok (.iadd, 1) := by decide +kernel
theorem dX1_addPiece_24 : decode cX1_addPiece 24 = .ok (.putfield 61, 3) := by decide +kernel
theorem dX1_addPiece_27 : decode cX1_addPiece 27 = .ok (.aload_n 0, 1) := by decide +kernel
theorem dX1_addPiece_28 : decode cX1_addPiece 28 = .ok (.getfield 11, 3) := by decide +kernel
theorem dX1_addPiece_31 : decode cX1_addPiece 31 = .ok (.iload 6, 2) := by decide +kernel
theorem dX1_addPiece_33 : decode cX1_addPiece 33 = .ok (.iload_n 1, 1) := by decide +kernel
theorem dX1_addPiece_34 : decode cX1_addPiece 34 = .ok (.iastore, 1) := by decide +kernel
theorem dX1_addPiece_35 : decode cX1_addPiece 35 = .ok (.aload_n 0, 1) := by decide +kernel
theorem dX1_addPiece_36 : decode cX1_addPiece 36 = .ok (.getfield 15, 3) := by decide +kernel
theorem dX1_addPiece_39 : decode cX1_addPiece 39 = .ok (.iload 6, 2) := by decide +kernel
theorem dX1_addPiece_41 : decode cX1_addPiece 41 = .ok (.iload_n 2, 1) := by decide +kernel
theorem dX1_addPiece_42 : decode cX1_addPiece 42 = .ok (.iastore, 1) := by decide +kernel
theorem dX1_addPiece_43 : decode cX1_addPiece 43 = .ok (.aload_n 0, 1) := by decide +kernel
theorem dX1_addPiece_44 : decode cX1_addPiece 44 = .ok (.getfield 18, 3) := by decide +kernel
theorem dX1_addPiece_47 : decode cX1_addPiece 47 = .ok (.iload 6, 2) := by decide +kernel
theorem dX1_addPiece_49 : decode cX1_addPiece 49 = .ok (.iconst 3, 1) := by decide +kernel
theorem dX1_addPiece_50 : decode cX1_addPiece 50 = .ok (.imul, 1) := by decide +kernel
theorem dX1_addPiece_51 : decode cX1_addPiece 51 = .ok (.iload_n 3, 1) := by decide +kernel
theorem dX1_addPiece_52 : decode cX1_addPiece 52 = .ok (.iastore, 1) := by decide +kernel
theorem dX1_addPiece_53 : decode cX1_addPiece 53 = .ok (.aload_n 0, 1) := by decide +kernel
theorem dX1_addPiece_54 : decode cX1_addPiece 54 = .ok (.getfield 18, 3) := by decide +kernel
theorem dX1_addPiece_57 : decode cX1_addPiece 57 = .ok (.iload 6, 2) := by decide +kernel
theorem dX1_addPiece_59 : decode cX1_addPiece 59 = .ok (.iconst 3, 1) := by decide +kernel
theorem dX1_addPiece_60 : decode cX1_addPiece 60 = .ok (.imul, 1) := by decide +kernel
theorem dX1_addPiece_61 : decode cX1_addPiece 61 = .ok (.iconst 1, 1) := by decide +kernel
theorem dX1_addPiece_62 : decode cX1_addPiece 62 = .ok (.iadd, 1) := by decide +kernel
theorem dX1_addPiece_63 : decode cX1_addPiece 63 = .ok (.iload 4, 2) := by decide +kernel
theorem dX1_addPiece_65 : decode cX1_addPiece 65 = .ok (.iastore, 1) := by decide +kernel
theorem dX1_addPiece_66 : decode cX1_addPiece 66 = .ok (.aload_n 0, 1) := by decide +kernel
theorem dX1_addPiece_67 : decode cX1_addPiece 67 = .ok (.getfield 18, 3) := by decide +kernel
theorem dX1_addPiece_70 : decode cX1_addPiece 70 = .ok (.iload 6, 2) := by decide +kernel
theorem dX1_addPiece_72 : decode cX1_addPiece 72 = .ok (.iconst 3, 1) := by decide +kernel
theorem dX1_addPiece_73 : decode cX1_addPiece 73 = .ok (.imul, 1) := by decide +kernel
theorem dX1_addPiece_74 : decode cX1_addPiece 74 = .ok (.iconst 2, 1) := by decide +kernel
theorem dX1_addPiece_75 : decode cX1_addPiece 75 = .ok (.iadd, 1) := by decide +kernel
theorem dX1_addPiece_76 : decode cX1_addPiece 76 = .ok (.iload 5, 2) := by decide +kernel
theorem dX1_addPiece_78 : decode cX1_addPiece 78 = .ok (.iastore, 1) := by decide +kernel
theorem dX1_addPiece_79 : decode cX1_addPiece 79 = .ok (.iconst 0, 1) := by decide +kernel
theorem dX1_addPiece_80 : decode cX1_addPiece 80 = .ok (.istore 7, 2) := by decide +kernel
theorem dX1_addPiece_82 : decode cX1_addPiece 82 = .ok (.iload 7, 2) := by decide +kernel
theorem dX1_addPiece_84 : decode cX1_addPiece 84 = .ok (.aload_n 0, 1) := by decide +kernel
theorem dX1_addPiece_85 : decode cX1_addPiece 85 = .ok (.getfield 64, 3) := by decide +kernel
theorem dX1_addPiece_88 : decode cX1_addPiece 88 = .ok (.if_icmp .ge 17, 3) := by decide +kernel
theorem dX1_addPiece_91 : decode cX1_addPiece 91 = .ok (.aload_n 0, 1) := by decide +kernel
theorem dX1_addPiece_92 : decode cX1_addPiece 92 = .ok (.iload 6, 2) := by decide +kernel
theorem dX1_addPiece_94 : decode cX1_addPiece 94 = .ok (.iload 7, 2) := by decide +kernel
theorem dX1_addPiece_96 : decode cX1_addPiece 96 = .ok (.invokevirtual 70, 3) := by decide +kernel
theorem dX1_addPiece_99 : decode cX1_addPiece 99 = .ok (.iinc 7 1, 3) := by decide +kernel
theorem dX1_addPiece_102 : decode cX1_addPiece 102 = .ok (.goto (-20), 3) := by decide +kernel
theorem dX1_addPiece_105 : decode cX1_addPiece 105 = .ok (.iload 6, 2) := by decide +kernel
theorem dX1_addPiece_107 : decode cX1_addPiece 107 = .ok (.ireturn, 1) := by decide +kernel
set_option maxRecDepth 20000 in
theorem ggX1_addHouse_X1_measurePair : GoodIn wsX1_addHouse wsX1_measurePair := goodIn_r _ [10, 11, 2, 12, 3, 13, 14, 15, 16, 9, 17, 18, 19, 20, 21, 22, 23, 24, 25, 26, 27, 28, 29, 30, 31, 32, 33, 34, 35, 36, 37, 38, 39, 40, 41, 42, 43, 44, 45, 46, 47, 48, 49, 50, 51, 52, 53, 54, 55, 56, 57, 58, 59, 60, 61, 62, 63, 64, 65, 66, 67, 68] (by decide +kernel) (by decide +kernel)
set_option maxRecDepth 20000 in
theorem gX1_addHouse_X1_measurePair : GoodIn wsX1_addHouse (wsV RX1 70 RX1 yX1_measurePair wsX1_measurePair) := goodIn_app (goodIn_of _ (by decide +kernel)) ggX1_addHouse_X1_measurePair
theorem dX1_addHouse_0 : decode cX1_addHouse 0 = .ok (.aload_n 0, 1) := by decide +kernel
theorem dX1_addHouse_1 : decode cX1_addHouse 1 = .ok (.getfield 64, 3) := by decide +kernel
theorem dX1_addHouse_4 : decode cX1_addHouse 4 = .ok (.bipush 20, 2) := by decide +kernel
theorem dX1_addHouse_6 : decode cX1_addHouse 6 = .ok (.if_icmp .lt 5, 3) := by decide +kernel
theorem dX1_addHouse_9 : decode cX1_addHouse 9 = .ok (.iconst (-1), 1) := by decide +kernel
theorem dX1_addHouse_10 : decode cX1_addHouse 10 = .ok (.ireturn, 1) := by decide +kernel
theorem dX1_addHouse_11 : decode cX1_addHouse 11 = .ok (.aload_n 0, 1) := by decide +kernel
theorem dX1_addHouse_12 : decode cX1_addHouse 12 = .ok (.getfield 64, 3) := by decide +kernel
theorem dX1_addHouse_15 : decode cX1_addHouse 15 = .ok (.istore 4, 2) := by decide +kernel
theorem dX1_addHouse_17 : decode cX1_addHouse 17 = .ok (.aload_n 0, 1) := by decide +kernel
theorem dX1_addHouse_18 : decode cX1_addHouse 18 = .ok (.dup, 1) := by decide +kernel
theorem dX1_addHouse_19 : decode cX1_addHouse 19 = .ok (.getfield 64, 3) := by decide +kernel
theorem dX1_addHouse_22 : decode cX1_addHouse 22 = .ok (.iconst 1, 1) := by decide +kernel
theorem dX1_addHouse_23 : decode cX1_addHouse 23 = .ok (.iadd, 1) := by decide +kernel
theorem dX1_addHouse_24 : decode cX1_addHouse 24 = .ok (.putfield 64, 3) := by decide +kernel
theorem dX1_addHouse_27 : decode cX1_addHouse 27 = .ok (.aload_n 0, 1) := by decide +kernel
theorem dX1_addHouse_28 : decode cX1_addHouse 28 = .ok (.getfield 21, 3) := by decide +kernel
theorem dX1_addHouse_31 : decode cX1_addHouse 31 = .ok (.iload 4, 2) := by decide +kernel
theorem dX1_addHouse_33 : decode cX1_addHouse 33 = .ok (.iload_n 1, 1) := by decide +kernel
theorem dX1_addHouse_34 : decode cX1_addHouse 34 = .ok (.iastore, 1) := by decide +kernel
theorem dX1_addHouse_35 : decode cX1_addHouse 35 = .ok (.aload_n 0, 1) := by decide +kernel
theorem dX1_addHouse_36 : decode cX1_addHouse 36 = .ok (.getfield 24, 3) := by decide +kernel
theorem dX1_addHouse_39 : decode cX1_addHouse 39 = .ok (.iload 4, 2) := by decide +kernel
theorem dX1_addHouse_41 : decode cX1_addHouse 41 = .ok (.iload_n 2, 1) := by decide +kernel
theorem dX1_addHouse_42 : decode cX1_addHouse 42 = .ok (.iastore, 1) := by decide +kernel
theorem dX1_addHouse_43 : decode cX1_addHouse 43 = .ok (.aload_n 0, 1) := by decide +kernel
theorem dX1_addHouse_44 : decode cX1_addHouse 44 = .ok (.getfield 27, 3) := by decide +kernel
theorem dX1_addHouse_47 : decode cX1_addHouse 47 = .ok (.iload 4, 2) := by decide +kernel
theorem dX1_addHouse_49 : decode cX1_addHouse 49 = .ok (.iload_n 3, 1) := by decide +kernel
theorem dX1_addHouse_50 : decode cX1_addHouse 50 = .ok (.iastore, 1) := by decide +kernel
theorem dX1_addHouse_51 : decode cX1_addHouse 51 = .ok (.iconst 0, 1) := by decide +kernel
theorem dX1_addHouse_52 : decode cX1_addHouse 52 = .ok (.istore 5, 2) := by decide +kernel
theorem dX1_addHouse_54 : decode cX1_addHouse 54 = .ok (.iload 5, 2) := by decide +kernel
theorem dX1_addHouse_56 : decode cX1_addHouse 56 = .ok (.aload_n 0, 1) := by decide +kernel
theorem dX1_addHouse_57 : decode cX1_addHouse 57 = .ok (.getfield 61, 3) := by decide +kernel
theorem dX1_addHouse_60 : decode cX1_addHouse 60 = .ok (.if_icmp .ge 17, 3) := by decide +kernel
theorem dX1_addHouse_63 : decode cX1_addHouse 63 = .ok (.aload_n 0, 1) := by decide +kernel
theorem dX1_addHouse_64 : decode cX1_addHouse 64 = .ok (.iload 5, 2) := by decide +kernel
theorem dX1_addHouse_66 : decode cX1_addHouse 66 = .ok (.iload 4, 2) := by decide +kernel
theorem dX1_addHouse_68 : decode cX1_addHouse 68 = .ok (.invokevirtual 70, 3) := by decide +kernel
theorem dX1_addHouse_71 : decode cX1_addHouse 71 = .ok (.iinc 5 1, 3) := by decide +kernel
theorem dX1_addHouse_74 : decode cX1_addHouse 74 = .ok (.goto (-20), 3) := by decide +kernel
theorem dX1_addHouse_77 : decode cX1_addHouse 77 = .ok (.iload 4, 2) := by decide +kernel
theorem dX1_addHouse_79 : decode cX1_addHouse 79 = .ok (.ireturn, 1) := by decide +kernel
set_option maxRecDepth 20000 in
theorem ggX1_addWall_X1_noteIfBetween : GoodIn wsX1_addWall wsX1_noteIfBetween := goodIn_r _ [13, 14, 15, 16, 17, 12, 18, 19, 20, 21, 22, 2, 3, 4, 5, 23, 24, 25, 26, 27, 28, 29, 30, 31, 32, 33, 34, 35, 36, 37, 38, 39, 40, 41, 42, 43, 44, 45, 46, 47, 48, 49, 50, 51, 52, 53, 54, 55, 56, 57, 58, 59, 60] (by decide +kernel) (by decide +kernel)
set_option maxRecDepth 20000 in
theorem gX1_addWall_X1_noteIfBetween : GoodIn wsX1_addWall (wsV RX1 74 RX1 yX1_noteIfBetween wsX1_noteIfBetween) := goodIn_app (goodIn_of _ (by decide +kernel)) ggX1_addWall_X1_noteIfBetween
theorem dX1_addWall_0 : decode cX1_addWall 0 = .ok (.aload_n 0, 1) := by decide +kernel
theorem dX1_addWall_1 : decode cX1_addWall 1 = .ok (.getfield 67, 3) := by decide +kernel
theorem dX1_addWall_4 : decode cX1_addWall 4 = .ok (.bipush 8, 2) := by decide +kernel
theorem dX1_addWall_6 : decode cX1_addWall 6 = .ok (.if_icmp .lt 5, 3) := by decide +kernel
theorem dX1_addWall_9 : decode cX1_addWall 9 = .ok (.iconst (-1), 1) := by decide +kernel
theorem dX1_addWall_10 : decode cX1_addWall 10 = .ok (.ireturn, 1) := by decide +kernel
theorem dX1_addWall_11 : decode cX1_addWall 11 = .ok (.aload_n 0, 1) := by decide +kernel
theorem dX1_addWall_12 : decode cX1_addWall 12 = .ok (.getfield 67, 3) := by decide +kernel
theorem dX1_addWall_15 : decode cX1_addWall 15 = .ok (.istore 6, 2) := by decide +kernel
theorem dX1_addWall_17 : decode cX1_addWall 17 = .ok (.aload_n 0, 1) := by decide +kernel
theorem dX1_addWall_18 : decode cX1_addWall 18 = .ok (.dup, 1) := by decide +kernel
theorem dX1_addWall_19 : decode cX1_addWall 19 = .ok (.getfield 67, 3) := by decide +kernel
theorem dX1_addWall_22 : decode cX1_addWall 22 = .ok (.iconst 1, 1) := by decide +kernel
theorem dX1_addWall_23 : decode cX1_addWall 23 = .ok (.iadd, 1) := by decide +kernel
theorem dX1_addWall_24 : decode cX1_addWall 24 = .ok (.putfield 67, 3) := by decide +kernel
theorem dX1_addWall_27 : decode cX1_addWall 27 = .ok (.aload_n 0, 1) := by decide +kernel
theorem dX1_addWall_28 : decode cX1_addWall 28 = .ok (.getfield 30, 3) := by decide +kernel
theorem dX1_addWall_31 : decode cX1_addWall 31 = .ok (.iload 6, 2) := by decide +kernel
theorem dX1_addWall_33 : decode cX1_addWall 33 = .ok (.iload_n 1, 1) := by decide +kernel
theorem dX1_addWall_34 : decode cX1_addWall 34 = .ok (.iastore, 1) := by decide +kernel
theorem dX1_addWall_35 : decode cX1_addWall 35 = .ok (.aload_n 0, 1) := by decide +kernel
theorem dX1_addWall_36 : decode cX1_addWall 36 = .ok (.getfield 33, 3) := by decide +kernel
theorem dX1_addWall_39 : decode cX1_addWall 39 = .ok (.iload 6, 2) := by decide +kernel
theorem dX1_addWall_41 : decode cX1_addWall 41 = .ok (.iload_n 2, 1) := by decide +kernel
theorem dX1_addWall_42 : decode cX1_addWall 42 = .ok (.iastore, 1) := by decide +kernel
theorem dX1_addWall_43 : decode cX1_addWall 43 = .ok (.aload_n 0, 1) := by decide +kernel
theorem dX1_addWall_44 : decode cX1_addWall 44 = .ok (.getfield 36, 3) := by decide +kernel
theorem dX1_addWall_47 : decode cX1_addWall 47 = .ok (.iload 6, 2) := by decide +kernel
theorem dX1_addWall_49 : decode cX1_addWall 49 = .ok (.iload_n 3, 1) := by decide +kernel
theorem dX1_addWall_50 : decode cX1_addWall 50 = .ok (.iastore, 1) := by decide +kernel
theorem dX1_addWall_51 : decode cX1_addWall 51 = .ok (.aload_n 0, 1) := by decide +kernel
theorem dX1_addWall_52 : decode cX1_addWall 52 = .ok (.getfield 39, 3) := by decide +kernel
theorem dX1_addWall_55 : decode cX1_addWall 55 = .ok (.iload 6, 2) := by decide +kernel
theorem dX1_addWall_57 : decode cX1_addWall 57 = .ok (.iload 4, 2) := by decide +kernel
theorem dX1_addWall_59 : decode cX1_addWall 59 = .ok (.iastore, 1) := by decide +kernel
theorem dX1_addWall_60 : decode cX1_addWall 60 = .ok (.aload_n 0, 1) := by decide +kernel
theorem dX1_addWall_61 : decode cX1_addWall 61 = .ok (.getfield 42, 3) := by decide +kernel
theorem dX1_addWall_64 : decode cX1_addWall 64 = .ok (.iload 6, 2) := by decide +kernel
theorem dX1_addWall_66 : decode cX1_addWall 66 = .ok (.iload 5, 2) := by decide +kernel
theorem dX1_addWall_68 : decode cX1_addWall 68 = .ok (.iastore, 1) := by decide +kernel
theorem dX1_addWall_69 : decode cX1_addWall 69 = .ok (.iconst 0, 1) := by decide +kernel
theorem dX1_addWall_70 : decode cX1_addWall 70 = .ok (.istore 7, 2) := by decide +kernel
theorem dX1_addWall_72 : decode cX1_addWall 72 = .ok (.iload 7, 2) := by decide +kernel
theorem dX1_addWall_74 : decode cX1_addWall 74 = .ok (.aload_n 0, 1) := by decide +kernel
theorem dX1_addWall_75 : decode cX1_addWall 75 = .ok (.getfield 61, 3) := by decide +kernel
theorem dX1_addWall_78 : decode cX1_addWall 78 = .ok (.if_icmp .ge 37, 3) := by decide +kernel
theorem dX1_addWall_81 : decode cX1_addWall 81 = .ok (.iconst 0, 1) := by decide +kernel
theorem dX1_addWall_82 : decode cX1_addWall 82 = .ok (.istore 8, 2) := by decide +kernel
theorem dX1_addWall_84 : decode cX1_addWall 84 = .ok (.iload 8, 2) := by decide +kernel
theorem dX1_addWall_86 : decode cX1_addWall 86 = .ok (.aload_n 0, 1) := by decide +kernel
theorem dX1_addWall_87 : decode cX1_addWall 87 = .ok (.getfield 64, 3) := by decide +kernel
theorem dX1_addWall_90 : decode cX1_addWall 90 = .ok (.if_icmp .ge 19, 3) := by decide +kernel
theorem dX1_addWall_93 : decode cX1_addWall 93 = .ok (.aload_n 0, 1) := by decide +kernel
theorem dX1_addWall_94 : decode cX1_addWall 94 = .ok (.iload 6, 2) := by decide +kernel
theorem dX1_addWall_96 : decode cX1_addWall 96 = .ok (.iload 7, 2) := by decide +kernel
theorem dX1_addWall_98 : decode cX1_addWall 98 = .ok (.iload 8, 2) := by decide +kernel
theorem dX1_addWall_100 : decode cX1_addWall 100 = .ok (.invokevirtual 74, 3) := by decide +kernel
theorem dX1_addWall_103 : decode cX1_addWall 103 = .ok (.iinc 8 1, 3) := by decide +kernel
theorem dX1_addWall_106 : decode cX1_addWall 106 = .ok (.goto (-22), 3) := by decide +kernel
theorem dX1_addWall_109 : decode cX1_addWall 109 = .ok (.iinc 7 1, 3) := by decide +kernel
theorem dX1_addWall_112 : decode cX1_addWall 112 = .ok (.goto (-40), 3) := by decide +kernel
theorem dX1_addWall_115 : decode cX1_addWall 115 = .ok (.iload 6, 2) := by decide +kernel
theorem dX1_addWall_117 : decode cX1_addWall 117 = .ok (.ireturn, 1) := by decide +kernel
theorem dX1_changeFall_0 : decode cX1_changeFall 0 = .ok (.aload_n 0, 1) := by decide +kernel
theorem dX1_changeFall_1 : decode cX1_changeFall 1 = .ok (.getfield 57, 3) := by decide +kernel
theorem dX1_changeFall_4 : decode cX1_changeFall 4 = .ok (.istore_n 2, 1) := by decide +kernel
theorem dX1_changeFall_5 : decode cX1_changeFall 5 = .ok (.aload_n 0, 1) := by decide +kernel
theorem dX1_changeFall_6 : decode cX1_changeFall 6 = .ok (.iload_n 1, 1) := by decide +kernel
theorem dX1_changeFall_7 : decode cX1_changeFall 7 = .ok (.putfield 57, 3) := by decide +kernel
theorem dX1_changeFall_10 : decode cX1_changeFall 10 = .ok (.iload_n 2, 1) := by decide +kernel
theorem dX1_changeFall_11 : decode cX1_changeFall 11 = .ok (.ireturn, 1) := by decide +kernel
theorem dX1_changeMalus_0 : decode cX1_changeMalus 0 = .ok (.aload_n 0, 1) := by decide +kernel
theorem dX1_changeMalus_1 : decode cX1_changeMalus 1 = .ok (.getfield 45, 3) := by decide +kernel
theorem dX1_changeMalus_4 : decode cX1_changeMalus 4 = .ok (.iload_n 1, 1) := by decide +kernel
theorem dX1_changeMalus_5 : decode cX1_changeMalus 5 = .ok (.iaload, 1) := by decide +kernel
theorem dX1_changeMalus_6 : decode cX1_changeMalus 6 = .ok (.istore_n 3, 1) := by decide +kernel
theorem dX1_changeMalus_7 : decode cX1_changeMalus 7 = .ok (.aload_n 0, 1) := by decide +kernel
theorem dX1_changeMalus_8 : decode cX1_changeMalus 8 = .ok (.getfield 45, 3) := by decide +kernel
theorem dX1_changeMalus_11 : decode cX1_changeMalus 11 = .ok (.iload_n 1, 1) := by decide +kernel
theorem dX1_changeMalus_12 : decode cX1_changeMalus 12 = .ok (.iload_n 2, 1) := by decide +kernel
theorem dX1_changeMalus_13 : decode cX1_changeMalus 13 = .ok (.iastore, 1) := by decide +kernel
theorem dX1_changeMalus_14 : decode cX1_changeMalus 14 = .ok (.iload_n 3, 1) := by decide +kernel
theorem dX1_changeMalus_15 : decode cX1_changeMalus 15 = .ok (.ireturn, 1) := by decide +kernel
theorem dX1_changeCut_0 : decode cX1_changeCut 0 = .ok (.aload_n 0, 1) := by decide +kernel
theorem dX1_changeCut_1 : decode cX1_changeCut 1 = .ok (.getfield 42, 3) := by decide +kernel
theorem dX1_changeCut_4 : decode cX1_changeCut 4 = .ok (.iload_n 1, 1) := by decide +kernel
theorem dX1_changeCut_5 : decode cX1_changeCut 5 = .ok (.iaload, 1) := by decide +kernel
theorem dX1_changeCut_6 : decode cX1_changeCut 6 = .ok (.istore_n 3, 1) := by decide +kernel
theorem dX1_changeCut_7 : decode cX1_changeCut 7 = .ok (.aload_n 0, 1) := by decide +kernel
theorem dX1_changeCut_8 : decode cX1_changeCut 8 = .ok (.getfield 42, 3) := by decide +kernel
theorem dX1_changeCut_11 : decode cX1_changeCut 11 = .ok (.iload_n 1, 1) := by decide +kernel
theorem dX1_changeCut_12 : decode cX1_changeCut 12 = .ok (.iload_n 2, 1) := by decide +kernel
theorem dX1_changeCut_13 : decode cX1_changeCut 13 = .ok (.iastore, 1) := by decide +kernel
theorem dX1_changeCut_14 : decode cX1_changeCut 14 = .ok (.iload_n 3, 1) := by decide +kernel
theorem dX1_changeCut_15 : decode cX1_changeCut 15 = .ok (.ireturn, 1) := by decide +kernel
theorem dX1_allPeople_0 : decode cX1_allPeople 0 = .ok (.iconst 0, 1) := by decide +kernel
theorem dX1_allPeople_1 : decode cX1_allPeople 1 = .ok (.istore_n 1, 1) := by decide +kernel
theorem dX1_allPeople_2 : decode cX1_allPeople 2 = .ok (.iconst 0, 1) := by decide +kernel
theorem dX1_allPeople_3 : decode cX1_allPeople 3 = .ok (.istore_n 2, 1) := by decide +kernel
theorem dX1_allPeople_4 : decode cX1_allPeople 4 = .ok (.iload_n 2, 1) := by decide +kernel
theorem dX1_allPeople_5 : decode cX1_allPeople 5 = .ok (.aload_n 0, 1) := by decide +kernel
theorem dX1_allPeople_6 : decode cX1_allPeople 6 = .ok (.getfield 64, 3) := by decide +kernel
theorem dX1_allPeople_9 : decode cX1_allPeople 9 = .ok (.if_icmp .ge 18, 3) := by decide +kernel
theorem dX1_allPeople_12 : decode cX1_allPeople 12 = .ok (.iload_n 1, 1) := by decide +kernel
theorem dX1_allPeople_13 : decode cX1_allPeople 13 = .ok (.aload_n 0, 1) := by decide +kernel
theorem dX1_allPeople_14 : decode cX1_allPeople 14 = .ok (.getfield 27, 3) := by decide +kernel
theorem dX1_allPeople_17 : decode cX1_allPeople 17 = .ok (.iload_n 2, 1) := by decide +kernel
theorem dX1_allPeople_18 : decode cX1_allPeople 18 = .ok (.iaload, 1) := by decide +kernel
theorem dX1_allPeople_19 : decode cX1_allPeople 19 = .ok (.iadd, 1) := by decide +kernel
theorem dX1_allPeople_20 : decode cX1_allPeople 20 = .ok (.istore_n 1, 1) := by decide +kernel
theorem dX1_allPeople_21 : decode cX1_allPeople 21 = .ok (.iinc 2 1, 3) := by decide +kernel
theorem dX1_allPeople_24 : decode cX1_allPeople 24 = .ok (.goto (-20), 3) := by decide +kernel
theorem dX1_allPeople_27 : decode cX1_allPeople 27 = .ok (.iload_n 1, 1) := by decide +kernel
theorem dX1_allPeople_28 : decode cX1_allPeople 28 = .ok (.ireturn, 1) := by decide +kernel
set_option maxRecDepth 20000 in
theorem ggX1_peopleAbove_X1_allDayLevel : GoodIn wsX1_peopleAbove wsX1_allDayLevel := goodIn_r _ [7, 8, 9, 10, 11, 12, 13, 14, 15, 6, 16, 17, 18, 19, 20, 21, 22, 23, 24, 25, 26, 27, 28, 29, 30, 31, 32, 33, 34, 35, 36, 37, 38, 39, 40, 41, 42, 43, 44, 45, 46, 47, 48, 49, 50, 51, 52, 53, 54, 55, 56, 57, 58, 59, 60, 61, 62] (by decide +kernel) (by decide +kernel)
set_option maxRecDepth 20000 in
theorem gX1_peopleAbove_X1_allDayLevel : GoodIn wsX1_peopleAbove (wsV RX1 78 RX1 yX1_allDayLevel wsX1_allDayLevel) := goodIn_app (goodIn_of _ (by decide +kernel)) ggX1_peopleAbove_X1_allDayLevel
theorem dX1_peopleAbove_0 : decode cX1_peopleAbove 0 = .ok (.iconst 0, 1) := by decide +kernel
theorem dX1_peopleAbove_1 : decode cX1_peopleAbove 1 = .ok (.istore_n 2, 1) := by decide +kernel
theorem dX1_peopleAbove_2 : decode cX1_peopleAbove 2 = .ok (.iconst 0, 1) := by decide +kernel
theorem dX1_peopleAbove_3 : decode cX1_peopleAbove 3 = .ok (.istore_n 3, 1) := by decide +kernel
theorem dX1_peopleAbove_4 : decode cX1_peopleAbove 4 = .ok (.iload_n 3, 1) := by decide +kernel
theorem dX1_peopleAbove_5 : decode cX1_peopleAbove 5 = .ok (.aload_n 0, 1) := by decide +kernel
theorem dX1_peopleAbove_6 : decode cX1_peopleAbove 6 = .ok (.getfield 64, 3) := by decide +kernel
theorem dX1_peopleAbove_9 : decode cX1_peopleAbove 9 = .ok (.if_icmp .ge 27, 3) := by decide +kernel
theorem dX1_peopleAbove_12 : decode cX1_peopleAbove 12 = .ok (.aload_n 0, 1) := by decide +kernel
theorem dX1_peopleAbove_13 : decode cX1_peopleAbove 13 = .ok (.iload_n 3, 1) := by decide +kernel
theorem dX1_peopleAbove_14 : decode cX1_peopleAbove 14 = .ok (.invokevirtual 78, 3) := by decide +kernel
theorem dX1_peopleAbove_17 : decode cX1_peopleAbove 17 = .ok (.iload_n 1, 1) := by decide +kernel
theorem dX1_peopleAbove_18 : decode cX1_peopleAbove 18 = .ok (.if_icmp .le 12, 3) := by decide +kernel
theorem dX1_peopleAbove_21 : decode cX1_peopleAbove 21 = .ok (.iload_n 2, 1) := by decide +kernel
theorem dX1_peopleAbove_22 : decode cX1_peopleAbove 22 = .ok (.aload_n 0, 1) := by decide +kernel
theorem dX1_peopleAbove_23 : decode cX1_peopleAbove 23 = .ok (.getfield 27, 3) := by decide +kernel
theorem dX1_peopleAbove_26 : decode cX1_peopleAbove 26 = .ok (.iload_n 3, 1) := by decide +kernel
theorem dX1_peopleAbove_27 : decode cX1_peopleAbove 27 = .ok (.iaload, 1) := by decide +kernel
theorem dX1_peopleAbove_28 : decode cX1_peopleAbove 28 = .ok (.iadd, 1) := by decide +kernel
theorem dX1_peopleAbove_29 : decode cX1_peopleAbove 29 = .ok (.istore_n 2, 1) := by decide +kernel
theorem dX1_peopleAbove_30 : decode cX1_peopleAbove 30 = .ok (.iinc 3 1, 3) := by decide +kernel
theorem dX1_peopleAbove_33 : decode cX1_peopleAbove 33 = .ok (.goto (-29), 3) := by decide +kernel
theorem dX1_peopleAbove_36 : decode cX1_peopleAbove 36 = .ok (.iload_n 2, 1) := by decide +kernel
theorem dX1_peopleAbove_37 : decode cX1_peopleAbove 37 = .ok (.ireturn, 1) := by decide +kernel
set_option maxRecDepth 20000 in
theorem ggX1_given_X1_pairOf : GoodIn wsX1_given wsX1_pairOf := goodIn_r _ [11] (by decide +kernel) (by decide +kernel)
set_option maxRecDepth 20000 in
theorem gX1_given_X1_pairOf : GoodIn wsX1_given (va_wsS RX1 82 yX1_pairOf wsX1_pairOf) := goodIn_app (goodIn_of _ (by decide +kernel)) ggX1_given_X1_pairOf
set_option maxRecDepth 20000 in
theorem ggX1_given_X1_greatestCut : GoodIn wsX1_given wsX1_greatestCut := goodIn_r _ [15, 16, 17, 18, 19, 20, 21, 22, 23, 24, 25, 26, 27, 28, 29, 30, 31, 32, 33, 34, 35, 36, 37] (by decide +kernel) (by decide +kernel)
set_option maxRecDepth 20000 in
theorem gX1_given_X1_greatestCut : GoodIn wsX1_given (wsV RX1 86 RX1 yX1_greatestCut wsX1_greatestCut) := goodIn_app (goodIn_of _ (by decide +kernel)) ggX1_given_X1_greatestCut
theorem dX1_given_0 : decode cX1_given 0 = .ok (.iload_n 1, 1) := by decide +kernel
theorem dX1_given_1 : decode cX1_given 1 = .ok (.iload_n 2, 1) := by decide +kernel
theorem dX1_given_2 : decode cX1_given 2 = .ok (.invokestatic 82, 3) := by decide +kernel
theorem dX1_given_5 : decode cX1_given 5 = .ok (.istore 4, 2) := by decide +kernel
theorem dX1_given_7 : decode cX1_given 7 = .ok (.aload_n 0, 1) := by decide +kernel
theorem dX1_given_8 : decode cX1_given 8 = .ok (.getfield 18, 3) := by decide +kernel
theorem dX1_given_11 : decode cX1_given 11 = .ok (.iload_n 1, 1) := by decide +kernel
theorem dX1_given_12 : decode cX1_given 12 = .ok (.iconst 3, 1) := by decide +kernel
theorem dX1_given_13 : decode cX1_given 13 = .ok (.imul, 1) := by decide +kernel
theorem dX1_given_14 : decode cX1_given 14 = .ok (.iload_n 3, 1) := by decide +kernel
theorem dX1_given_15 : decode cX1_given 15 = .ok (.iadd, 1) := by decide +kernel
theorem dX1_given_16 : decode cX1_given 16 = .ok (.iaload, 1) := by decide +kernel
theorem dX1_given_17 : decode cX1_given 17 = .ok (.aload_n 0, 1) := by decide +kernel
theorem dX1_given_18 : decode cX1_given 18 = .ok (.getfield 57, 3) := by decide +kernel
theorem dX1_given_21 : decode cX1_given 21 = .ok (.aload_n 0, 1) := by decide +kernel
theorem dX1_given_22 : decode cX1_given 22 = .ok (.getfield 48, 3) := by decide +kernel
theorem dX1_given_25 : decode cX1_given 25 = .ok (.iload 4, 2) := by decide +kernel
theorem dX1_given_27 : decode cX1_given 27 = .ok (.iaload, 1) := by decide +kernel
theorem dX1_given_28 : decode cX1_given 28 = .ok (.imul, 1) := by decide +kernel
theorem dX1_given_29 : decode cX1_given 29 = .ok (.isub, 1) := by decide +kernel
theorem dX1_given_30 : decode cX1_given 30 = .ok (.aload_n 0, 1) := by decide +kernel
theorem dX1_given_31 : decode cX1_given 31 = .ok (.iload 4, 2) := by decide +kernel
theorem dX1_given_33 : decode cX1_given 33 = .ok (.invokevirtual 86, 3) := by decide +kernel
theorem dX1_given_36 : decode cX1_given 36 = .ok (.isub, 1) := by decide +kernel
theorem dX1_given_37 : decode cX1_given 37 = .ok (.istore 5, 2) := by decide +kernel
theorem dX1_given_39 : decode cX1_given 39 = .ok (.iload 5, 2) := by decide +kernel
theorem dX1_given_41 : decode cX1_given 41 = .ok (.iconst 0, 1) := by decide +kernel
theorem dX1_given_42 : decode cX1_given 42 = .ok (.invokestatic 89, 3) := by decide +kernel
theorem dX1_given_45 : decode cX1_given 45 = .ok (.ireturn, 1) := by decide +kernel
set_option maxRecDepth 20000 in
theorem ggX1_partLevel_X1_given : GoodIn wsX1_partLevel wsX1_given := goodIn_r _ [6, 7, 8, 9, 10, 11, 12, 13, 14, 15, 5, 16, 17, 18, 19, 20, 21, 22, 23, 33, 34, 35, 36, 37, 38, 39, 40, 41, 42, 43, 44, 45, 46, 47, 48, 49, 50, 51] (by decide +kernel) (by decide +kernel)
set_option maxRecDepth 20000 in
theorem gX1_partLevel_X1_given : GoodIn wsX1_partLevel (wsV RX1 94 RX1 yX1_given wsX1_given) := goodIn_app (goodIn_of _ (by decide +kernel)) ggX1_partLevel_X1_given
set_option maxRecDepth 20000 in
theorem ggX1_partLevel_X1_join : GoodIn wsX1_partLevel wsX1_join := goodIn_r _ [26, 10, 11, 12, 13, 27, 28, 29, 30, 31, 5, 32] (by decide +kernel) (by decide +kernel)
set_option maxRecDepth 20000 in
theorem gX1_partLevel_X1_join : GoodIn wsX1_partLevel (va_wsS RX1 98 yX1_join wsX1_join) := goodIn_app (goodIn_of _ (by decide +kernel)) ggX1_partLevel_X1_join
theorem dX1_partLevel_0 : decode cX1_partLevel 0 = .ok (.iconst 0, 1) := by decide +kernel
theorem dX1_partLevel_1 : decode cX1_partLevel 1 = .ok (.istore_n 3, 1) := by decide +kernel
theorem dX1_partLevel_2 : decode cX1_partLevel 2 = .ok (.iconst 0, 1) := by decide +kernel
theorem dX1_partLevel_3 : decode cX1_partLevel 3 = .ok (.istore 4, 2) := by decide +kernel
theorem dX1_partLevel_5 : decode cX1_partLevel 5 = .ok (.iload 4, 2) := by decide +kernel
theorem dX1_partLevel_7 : decode cX1_partLevel 7 = .ok (.aload_n 0, 1) := by decide +kernel
theorem dX1_partLevel_8 : decode cX1_partLevel 8 = .ok (.getfield 61, 3) := by decide +kernel
theorem dX1_partLevel_11 : decode cX1_partLevel 11 = .ok (.if_icmp .ge 22, 3) := by decide +kernel
theorem dX1_partLevel_14 : decode cX1_partLevel 14 = .ok (.iload_n 3, 1) := by decide +kernel
theorem dX1_partLevel_15 : decode cX1_partLevel 15 = .ok (.aload_n 0, 1) := by decide +kernel
theorem dX1_partLevel_16 : decode cX1_partLevel 16 = .ok (.iload 4, 2) := by decide +kernel
theorem dX1_partLevel_18 : decode cX1_partLevel 18 = .ok (.iload_n 1, 1) := by decide +kernel
theorem dX1_partLevel_19 : decode cX1_partLevel 19 = .ok (.iload_n 2, 1) := by decide +kernel
theorem dX1_partLevel_20 : decode cX1_partLevel 20 = .ok (.invokevirtual 94, 3) := by decide +kernel
theorem dX1_partLevel_23 : decode cX1_partLevel 23 = .ok (.invokestatic 98, 3) := by decide +kernel
theorem dX1_partLevel_26 : decode cX1_partLevel 26 = .ok (.istore_n 3, 1) := by decide +kernel
theorem dX1_partLevel_27 : decode cX1_partLevel 27 = .ok (.iinc 4 1, 3) := by decide +kernel
theorem dX1_partLevel_30 : decode cX1_partLevel 30 = .ok (.goto (-25), 3) := by decide +kernel
theorem dX1_partLevel_33 : decode cX1_partLevel 33 = .ok (.iload_n 3, 1) := by decide +kernel
theorem dX1_partLevel_34 : decode cX1_partLevel 34 = .ok (.ireturn, 1) := by decide +kernel
set_option maxRecDepth 20000 in
theorem ggX1_allDayLevel_X1_partLevel : GoodIn wsX1_allDayLevel wsX1_partLevel := goodIn_r _ [10, 11, 12, 13, 14, 9, 15, 16, 17, 18, 2, 3, 4, 5, 19, 20, 21, 22, 23, 24, 25, 26, 27, 28, 29, 30, 31, 32, 33, 34, 35, 36, 37, 38, 39, 40, 41, 42, 43, 44, 45, 46, 47, 48, 49, 50, 51, 52, 53, 54, 55, 56] (by decide +kernel) (by decide +kernel)
set_option maxRecDepth 20000 in
theorem gX1_allDayLevel_X1_partLevel : GoodIn wsX1_allDayLevel (wsV RX1 101 RX1 yX1_partLevel wsX1_partLevel) := goodIn_app (goodIn_of _ (by decide +kernel)) ggX1_allDayLevel_X1_partLevel
theorem dX1_allDayLevel_0 : decode cX1_allDayLevel 0 = .ok (.iconst 0, 1) := by decide +kernel
theorem dX1_allDayLevel_1 : decode cX1_allDayLevel 1 = .ok (.istore_n 2, 1) := by decide +kernel
theorem dX1_allDayLevel_2 : decode cX1_allDayLevel 2 = .ok (.iconst 0, 1) := by decide +kernel
theorem dX1_allDayLevel_3 : decode cX1_allDayLevel 3 = .ok (.istore_n 3, 1) := by decide +kernel
theorem dX1_allDayLevel_4 : decode cX1_allDayLevel 4 = .ok (.iload_n 3, 1) := by decide +kernel
theorem dX1_allDayLevel_5 : decode cX1_allDayLevel 5 = .ok (.iconst 3, 1) := by decide +kernel
theorem dX1_allDayLevel_6 : decode cX1_allDayLevel 6 = .ok (.if_icmp .ge 36, 3) := by decide +kernel
theorem dX1_allDayLevel_9 : decode cX1_allDayLevel 9 = .ok (.aload_n 0, 1) := by decide +kernel
theorem dX1_allDayLevel_10 : decode cX1_allDayLevel 10 = .ok (.iload_n 1, 1) := by decide +kernel
theorem dX1_allDayLevel_11 : decode cX1_allDayLevel 11 = .ok (.iload_n 3, 1) := by decide +kernel
theorem dX1_allDayLevel_12 : decode cX1_allDayLevel 12 = .ok (.invokevirtual 101, 3) := by decide +kernel
theorem dX1_allDayLevel_15 : decode cX1_allDayLevel 15 = .ok (.istore 4, 2) := by decide +kernel
theorem dX1_allDayLevel_17 : decode cX1_allDayLevel 17 = .ok (.iload 4, 2) := by decide +kernel
theorem dX1_allDayLevel_19 : decode cX1_allDayLevel 19 = .ok (.ifCond .le 17, 3) := by decide +kernel
theorem dX1_allDayLevel_22 : decode cX1_allDayLevel 22 = .ok (.iload_n 2, 1) := by decide +kernel
theorem dX1_allDayLevel_23 : decode cX1_allDayLevel 23 = .ok (.iload 4, 2) := by decide +kernel
theorem dX1_allDayLevel_25 : decode cX1_allDayLevel 25 = .ok (.aload_n 0, 1) := by decide +kernel
theorem dX1_allDayLevel_26 : decode cX1_allDayLevel 26 = .ok (.getfield 45, 3) := by decide +kernel
theorem dX1_allDayLevel_29 : decode cX1_allDayLevel 29 = .ok (.iload_n 3, 1) := by decide +kernel
theorem dX1_allDayLevel_30 : decode cX1_allDayLevel 30 = .ok (.iaload, 1) := by decide +kernel
theorem dX1_allDayLevel_31 : decode cX1_allDayLevel 31 = .ok (.iadd, 1) := by decide +kernel
theorem dX1_allDayLevel_32 : decode cX1_allDayLevel 32 = .ok (.invokestatic 89, 3) := by decide +kernel
theorem dX1_allDayLevel_35 : decode cX1_allDayLevel 35 = .ok (.istore_n 2, 1) := by decide +kernel
theorem dX1_allDayLevel_36 : decode cX1_allDayLevel 36 = .ok (.iinc 3 1, 3) := by decide +kernel
theorem dX1_allDayLevel_39 : decode cX1_allDayLevel 39 = .ok (.goto (-35), 3) := by decide +kernel
theorem dX1_allDayLevel_42 : decode cX1_allDayLevel 42 = .ok (.iload_n 2, 1) := by decide +kernel
theorem dX1_allDayLevel_43 : decode cX1_allDayLevel 43 = .ok (.ireturn, 1) := by decide +kernel
set_option maxRecDepth 20000 in
theorem ggX1_loudestPiece_X1_given : GoodIn wsX1_loudestPiece wsX1_given := goodIn_r _ [6, 7, 8, 9, 10, 11, 12, 13, 14, 15, 5, 16, 17, 18, 19, 20, 21, 22, 23, 24, 25, 26, 27, 28, 29, 30, 31, 32, 33, 34, 35, 36, 37, 38, 39, 40, 41, 42] (by decide +kernel) (by decide +kernel)
set_option maxRecDepth 20000 in
theorem gX1_loudestPiece_X1_given : GoodIn wsX1_loudestPiece (wsV RX1 94 RX1 yX1_given wsX1_given) := goodIn_app (goodIn_of _ (by decide +kernel)) ggX1_loudestPiece_X1_given
theorem dX1_loudestPiece_0 : decode cX1_loudestPiece 0 = .ok (.iconst (-1), 1) := by decide +kernel
theorem dX1_loudestPiece_1 : decode cX1_loudestPiece 1 = .ok (.istore_n 3, 1) := by decide +kernel
theorem dX1_loudestPiece_2 : decode cX1_loudestPiece 2 = .ok (.iconst 0, 1) := by decide +kernel
theorem dX1_loudestPiece_3 : decode cX1_loudestPiece 3 = .ok (.istore 4, 2) := by decide +kernel
theorem dX1_loudestPiece_5 : decode cX1_loudestPiece 5 = .ok (.iconst 0, 1) := by decide +kernel
theorem dX1_loudestPiece_6 : decode cX1_loudestPiece 6 = .ok (.istore 5, 2) := by decide +kernel
theorem dX1_loudestPiece_8 : decode cX1_loudestPiece 8 = .ok (.iload 5, 2) := by decide +kernel
theorem dX1_loudestPiece_10 : decode cX1_loudestPiece 10 = .ok (.aload_n 0, 1) := by decide +kernel
theorem dX1_loudestPiece_11 : decode cX1_loudestPiece 11 = .ok (.getfield 61, 3) := by decide +kernel
theorem dX1_loudestPiece_14 : decode cX1_loudestPiece 14 = .ok (.if_icmp .ge 33, 3) := by decide +kernel
theorem dX1_loudestPiece_17 : decode cX1_loudestPiece 17 = .ok (.aload_n 0, 1) := by decide +kernel
theorem dX1_loudestPiece_18 : decode cX1_loudestPiece 18 = .ok (.iload 5, 2) := by decide +kernel
theorem dX1_loudestPiece_20 : decode cX1_loudestPiece 20 = .ok (.iload_n 1, 1) := by decide +kernel
theorem dX1_loudestPiece_21 : decode cX1_loudestPiece 21 = .ok (.iload_n 2, 1) := by decide +kernel
theorem dX1_loudestPiece_22 : decode cX1_loudestPiece 22 = .ok (.invokevirtual 94, 3) := by decide +kernel
theorem dX1_loudestPiece_25 : decode cX1_loudestPiece 25 = .ok (.istore 6, 2) := by decide +kernel
theorem dX1_loudestPiece_27 : decode cX1_loudestPiece 27 = .ok (.iload 6, 2) := by decide +kernel
theorem dX1_loudestPiece_29 : decode cX1_loudestPiece 29 = .ok (.iload 4, 2) := by decide +kernel
theorem dX1_loudestPiece_31 : decode cX1_loudestPiece 31 = .ok (.if_icmp .le 10, 3) := by decide +kernel
theorem dX1_loudestPiece_34 : decode cX1_loudestPiece 34 = .ok (.iload 6, 2) := by decide +kernel
theorem dX1_loudestPiece_36 : decode cX1_loudestPiece 36 = .ok (.istore 4, 2) := by decide +kernel
theorem dX1_loudestPiece_38 : decode cX1_loudestPiece 38 = .ok (.iload 5, 2) := by decide +kernel
theorem dX1_loudestPiece_40 : decode cX1_loudestPiece 40 = .ok (.istore_n 3, 1) := by decide +kernel
theorem dX1_loudestPiece_41 : decode cX1_loudestPiece 41 = .ok (.iinc 5 1, 3) := by decide +kernel
theorem dX1_loudestPiece_44 : decode cX1_loudestPiece 44 = .ok (.goto (-36), 3) := by decide +kernel
theorem dX1_loudestPiece_47 : decode cX1_loudestPiece 47 = .ok (.iload_n 3, 1) := by decide +kernel
theorem dX1_loudestPiece_48 : decode cX1_loudestPiece 48 = .ok (.ireturn, 1) := by decide +kernel
set_option maxRecDepth 20000 in
theorem ggX1_houseOfRank_X1_allDayLevel : GoodIn wsX1_houseOfRank wsX1_allDayLevel := goodIn_r _ [7, 8, 9, 10, 11, 12, 13, 14, 15, 6, 16, 17, 18, 19, 20, 21, 22, 23, 24, 25, 26, 27, 28, 29, 30, 31, 32, 33, 34, 35, 36, 37, 38, 39, 40, 41, 42, 43, 48, 49, 50, 51, 52, 53, 54, 55, 56, 57, 58, 59, 60, 61, 62, 63, 64, 65, 66] (by decide +kernel) (by decide +kernel)
set_option maxRecDepth 20000 in
theorem gX1_houseOfRank_X1_allDayLevel : GoodIn wsX1_houseOfRank (wsV RX1 78 RX1 yX1_allDayLevel wsX1_allDayLevel) := goodIn_app (goodIn_of _ (by decide +kernel)) ggX1_houseOfRank_X1_allDayLevel
set_option maxRecDepth 20000 in
theorem ggX1_houseOfRank_X1_housesAhead : GoodIn wsX1_houseOfRank wsX1_housesAhead := goodIn_r _ [47, 1, 2, 48, 49, 50, 51, 52, 53, 54, 55, 56, 57, 58, 59, 60, 61, 62, 63, 64, 65, 66] (by decide +kernel) (by decide +kernel)
set_option maxRecDepth 20000 in
theorem gX1_houseOfRank_X1_housesAhead : GoodIn wsX1_houseOfRank (wsV RX1 104 RX1 yX1_housesAhead wsX1_housesAhead) := goodIn_app (goodIn_of _ (by decide +kernel)) ggX1_houseOfRank_X1_housesAhead
theorem dX1_houseOfRank_0 : decode cX1_houseOfRank 0 = .ok (.iconst 0, 1) := by decide +kernel
theorem dX1_houseOfRank_1 : decode cX1_houseOfRank 1 = .ok (.istore_n 2, 1) := by decide +kernel
theorem dX1_houseOfRank_2 : decode cX1_houseOfRank 2 = .ok (.iload_n 2, 1) := by decide +kernel
theorem dX1_houseOfRank_3 : decode cX1_houseOfRank 3 = .ok (.aload_n 0, 1) := by decide +kernel
theorem dX1_houseOfRank_4 : decode cX1_houseOfRank 4 = .ok (.getfield 64, 3) := by decide +kernel
theorem dX1_houseOfRank_7 : decode cX1_houseOfRank 7 = .ok (.if_icmp .ge 20, 3) := by decide +kernel
theorem dX1_houseOfRank_10 : decode cX1_houseOfRank 10 = .ok (.aload_n 0, 1) := by decide +kernel
theorem dX1_houseOfRank_11 : decode cX1_houseOfRank 11 = .ok (.getfield 54, 3) := by decide +kernel
theorem dX1_houseOfRank_14 : decode cX1_houseOfRank 14 = .ok (.iload_n 2, 1) := by decide +kernel
theorem dX1_houseOfRank_15 : decode cX1_houseOfRank 15 = .ok (.aload_n 0, 1) := by decide +kernel
theorem dX1_houseOfRank_16 : decode cX1_houseOfRank 16 = .ok (.iload_n 2, 1) := by decide +kernel
theorem dX1_houseOfRank_17 : decode cX1_houseOfRank 17 = .ok (.invokevirtual 78, 3) := by decide +kernel
theorem dX1_houseOfRank_20 : decode cX1_houseOfRank 20 = .ok (.iastore, 1) := by decide +kernel
theorem dX1_houseOfRank_21 : decode cX1_houseOfRank 21 = .ok (.iinc 2 1, 3) := by decide +kernel
theorem dX1_houseOfRank_24 : decode cX1_houseOfRank 24 = .ok (.goto (-22), 3) := by decide +kernel
theorem dX1_houseOfRank_27 : decode cX1_houseOfRank 27 = .ok (.iconst 0, 1) := by decide +kernel
theorem dX1_houseOfRank_28 : decode cX1_houseOfRank 28 = .ok (.istore_n 2, 1) := by decide +kernel
theorem dX1_houseOfRank_29 : decode cX1_houseOfRank 29 = .ok (.iload_n 2, 1) := by decide +kernel
theorem dX1_houseOfRank_30 : decode cX1_houseOfRank 30 = .ok (.aload_n 0, 1) := by decide +kernel
theorem dX1_houseOfRank_31 : decode cX1_houseOfRank 31 = .ok (.getfield 64, 3) := by decide +kernel
theorem dX1_houseOfRank_34 : decode cX1_houseOfRank 34 = .ok (.if_icmp .ge 20, 3) := by decide +kernel
theorem dX1_houseOfRank_37 : decode cX1_houseOfRank 37 = .ok (.aload_n 0, 1) := by decide +kernel
theorem dX1_houseOfRank_38 : decode cX1_houseOfRank 38 = .ok (.iload_n 2, 1) := by decide +kernel
theorem dX1_houseOfRank_39 : decode cX1_houseOfRank 39 = .ok (.invokevirtual 104, 3) := by decide +kernel
theorem dX1_houseOfRank_42 : decode cX1_houseOfRank 42 = .ok (.iload_n 1, 1) := by decide +kernel
theorem dX1_houseOfRank_43 : decode cX1_houseOfRank 43 = .ok (.if_icmp .ne 5, 3) := by decide +kernel
theorem dX1_houseOfRank_46 : decode cX1_houseOfRank 46 = .ok (.iload_n 2, 1) := by decide +kernel
theorem dX1_houseOfRank_47 : decode cX1_houseOfRank 47 = .ok (.ireturn, 1) := by decide +kernel
theorem dX1_houseOfRank_48 : decode cX1_houseOfRank 48 = .ok (.iinc 2 1, 3) := by decide +kernel
theorem dX1_houseOfRank_51 : decode cX1_houseOfRank 51 = .ok (.goto (-22), 3) := by decide +kernel
theorem dX1_houseOfRank_54 : decode cX1_houseOfRank 54 = .ok (.iconst (-1), 1) := by decide +kernel
theorem dX1_houseOfRank_55 : decode cX1_houseOfRank 55 = .ok (.ireturn, 1) := by decide +kernel
set_option maxRecDepth 20000 in
theorem ggX1_leastCut_X1_noneAbove : GoodIn wsX1_leastCut wsX1_noneAbove := goodIn_r _ [6, 7, 8, 9, 10, 5, 11, 12, 13, 14, 15, 16, 17, 18, 19, 20, 21, 22, 23, 24, 25, 26, 27, 28, 29, 30, 31, 32, 33, 34, 35, 36, 37, 1, 38, 39, 40, 41, 42, 43, 44, 45, 46, 47, 48, 49, 50, 51, 52, 53, 54, 55, 56, 57, 58, 59, 60, 61, 62, 63, 64, 65] (by decide +kernel) (by decide +kernel)
set_option maxRecDepth 20000 in
theorem gX1_leastCut_X1_noneAbove : GoodIn wsX1_leastCut (wsV RX1 107 RX1 yX1_noneAbove wsX1_noneAbove) := goodIn_app (goodIn_of _ (by decide +kernel)) ggX1_leastCut_X1_noneAbove
theorem dX1_leastCut_0 : decode cX1_leastCut 0 = .ok (.aload_n 0, 1) := by decide +kernel
theorem dX1_leastCut_1 : decode cX1_leastCut 1 = .ok (.getfield 42, 3) := by decide +kernel
theorem dX1_leastCut_4 : decode cX1_leastCut 4 = .ok (.iload_n 1, 1) := by decide +kernel
theorem dX1_leastCut_5 : decode cX1_leastCut 5 = .ok (.iaload, 1) := by decide +kernel
theorem dX1_leastCut_6 : decode cX1_leastCut 6 = .ok (.istore_n 3, 1) := by decide +kernel
theorem dX1_leastCut_7 : decode cX1_leastCut 7 = .ok (.iconst (-1), 1) := by decide +kernel
theorem dX1_leastCut_8 : decode cX1_leastCut 8 = .ok (.istore 4, 2) := by decide +kernel
theorem dX1_leastCut_10 : decode cX1_leastCut 10 = .ok (.iconst 0, 1) := by decide +kernel
theorem dX1_leastCut_11 : decode cX1_leastCut 11 = .ok (.istore 5, 2) := by decide +kernel
theorem dX1_leastCut_13 : decode cX1_leastCut 13 = .ok (.iload 5, 2) := by decide +kernel
theorem dX1_leastCut_15 : decode cX1_leastCut 15 = .ok (.sipush 300, 3) := by decide +kernel
theorem dX1_leastCut_18 : decode cX1_leastCut 18 = .ok (.if_icmp .gt 35, 3) := by decide +kernel
theorem dX1_leastCut_21 : decode cX1_leastCut 21 = .ok (.iload 4, 2) := by decide +kernel
theorem dX1_leastCut_23 : decode cX1_leastCut 23 = .ok (.iconst (-1), 1) := by decide +kernel
theorem dX1_leastCut_24 : decode cX1_leastCut 24 = .ok (.if_icmp .ne 29, 3) := by decide +kernel
theorem dX1_leastCut_27 : decode cX1_leastCut 27 = .ok (.aload_n 0, 1) := by decide +kernel
theorem dX1_leastCut_28 : decode cX1_leastCut 28 = .ok (.getfield 42, 3) := by decide +kernel
theorem dX1_leastCut_31 : decode cX1_leastCut 31 = .ok (.iload_n 1, 1) := by decide +kernel
theorem dX1_leastCut_32 : decode cX1_leastCut 32 = .ok (.iload 5, 2) := by decide +kernel
theorem dX1_leastCut_34 : decode cX1_leastCut 34 = .ok (.iastore, 1) := by decide +kernel
theorem dX1_leastCut_35 : decode cX1_leastCut 35 = .ok (.aload_n 0, 1) := by decide +kernel
theorem dX1_leastCut_36 : decode cX1_leastCut 36 = .ok (.iload_n 2, 1) := by decide +kernel
theorem dX1_leastCut_37 : decode cX1_leastCut 37 = .ok (.invokevirtual 107, 3) := by decide +kernel
theorem dX1_leastCut_40 : decode cX1_leastCut 40 = .ok (.ifCond .eq 7, 3) := by decide +kernel
theorem dX1_leastCut_43 : decode cX1_leastCut 43 = .ok (.iload 5, 2) := by decide +kernel
theorem dX1_leastCut_45 : decode cX1_leastCut 45 = .ok (.istore 4, 2) := by decide +kernel
theorem dX1_leastCut_47 : decode cX1_leastCut 47 = .ok (.iinc 5 5, 3) := by decide +kernel
theorem dX1_leastCut_50 : decode cX1_leastCut 50 = .ok (.goto (-37), 3) := by decide +kernel
theorem dX1_leastCut_53 : decode cX1_leastCut 53 = .ok (.aload_n 0, 1) := by decide +kernel
theorem dX1_leastCut_54 : decode cX1_leastCut 54 = .ok (.getfield 42, 3) := by decide +kernel
theorem dX1_leastCut_57 : decode cX1_leastCut 57 = .ok (.iload_n 1, 1) := by decide +kernel
theorem dX1_leastCut_58 : decode cX1_leastCut 58 = .ok (.iload_n 3, 1) := by decide +kernel
theorem dX1_leastCut_59 : decode cX1_leastCut 59 = .ok (.iastore, 1) := by decide +kernel
theorem dX1_leastCut_60 : decode cX1_leastCut 60 = .ok (.iload 4, 2) := by decide +kernel
theorem dX1_leastCut_62 : decode cX1_leastCut 62 = .ok (.ireturn, 1) := by decide +kernel
set_option maxRecDepth 20000 in
theorem ggX1_noneAbove_X1_allDayLevel : GoodIn wsX1_noneAbove wsX1_allDayLevel := goodIn_r _ [6, 7, 8, 9, 10, 11, 12, 13, 14, 5, 15, 16, 17, 18, 19, 20, 21, 22, 23, 24, 25, 26, 27, 28, 29, 30, 31, 32, 33, 34, 35, 36, 37, 38, 39, 40, 41, 42, 43, 44, 45, 46, 47, 48, 49, 50, 51, 52, 53, 54, 55, 56, 57, 58, 59, 60, 61] (by decide +kernel) (by decide +kernel)
set_option maxRecDepth 20000 in
theorem gX1_noneAbove_X1_allDayLevel : GoodIn wsX1_noneAbove (wsV RX1 78 RX1 yX1_allDayLevel wsX1_allDayLevel) := goodIn_app (goodIn_of _ (by decide +kernel)) ggX1_noneAbove_X1_allDayLevel
theorem dX1_noneAbove_0 : decode cX1_noneAbove 0 = .ok (.iconst 0, 1) := by decide +kernel
theorem dX1_noneAbove_1 : decode cX1_noneAbove 1 = .ok (.istore_n 2, 1) := by decide +kernel
theorem dX1_noneAbove_2 : decode cX1_noneAbove 2 = .ok (.iload_n 2, 1) := by decide +kernel
theorem dX1_noneAbove_3 : decode cX1_noneAbove 3 = .ok (.aload_n 0, 1) := by decide +kernel
theorem dX1_noneAbove_4 : decode cX1_noneAbove 4 = .ok (.getfield 64, 3) := by decide +kernel
theorem dX1_noneAbove_7 : decode cX1_noneAbove 7 = .ok (.if_icmp .ge 20, 3) := by decide +kernel
theorem dX1_noneAbove_10 : decode cX1_noneAbove 10 = .ok (.aload_n 0, 1) := by decide +kernel
theorem dX1_noneAbove_11 : decode cX1_noneAbove 11 = .ok (.iload_n 2, 1) := by decide +kernel
theorem dX1_noneAbove_12 : decode cX1_noneAbove 12 = .ok (.invokevirtual 78, 3) := by decide +kernel
theorem dX1_noneAbove_15 : decode cX1_noneAbove 15 = .ok (.iload_n 1, 1) := by decide +kernel
theorem dX1_noneAbove_16 : decode cX1_noneAbove 16 = .ok (.if_icmp .le 5, 3) := by decide +kernel
theorem dX1_noneAbove_19 : decode cX1_noneAbove 19 = .ok (.iconst 0, 1) := by decide +kernel
theorem dX1_noneAbove_20 : decode cX1_noneAbove 20 = .ok (.ireturn, 1) := by decide +kernel
theorem dX1_noneAbove_21 : decode cX1_noneAbove 21 = .ok (.iinc 2 1, 3) := by decide +kernel
theorem dX1_noneAbove_24 : decode cX1_noneAbove 24 = .ok (.goto (-22), 3) := by decide +kernel
theorem dX1_noneAbove_27 : decode cX1_noneAbove 27 = .ok (.iconst 1, 1) := by decide +kernel
theorem dX1_noneAbove_28 : decode cX1_noneAbove 28 = .ok (.ireturn, 1) := by decide +kernel
theorem dX1_housesAhead_0 : decode cX1_housesAhead 0 = .ok (.iconst 0, 1) := by decide +kernel
theorem dX1_housesAhead_1 : decode cX1_housesAhead 1 = .ok (.istore_n 2, 1) := by decide +kernel
theorem dX1_housesAhead_2 : decode cX1_housesAhead 2 = .ok (.iconst 0, 1) := by decide +kernel
theorem dX1_housesAhead_3 : decode cX1_housesAhead 3 = .ok (.istore_n 3, 1) := by decide +kernel
theorem dX1_housesAhead_4 : decode cX1_housesAhead 4 = .ok (.iload_n 3, 1) := by decide +kernel
theorem dX1_housesAhead_5 : decode cX1_housesAhead 5 = .ok (.aload_n 0, 1) := by decide +kernel
theorem dX1_housesAhead_6 : decode cX1_housesAhead 6 = .ok (.getfield 64, 3) := by decide +kernel
theorem dX1_housesAhead_9 : decode cX1_housesAhead 9 = .ok (.if_icmp .ge 59, 3) := by decide +kernel
theorem dX1_housesAhead_12 : decode cX1_housesAhead 12 = .ok (.aload_n 0, 1) := by decide +kernel
theorem dX1_housesAhead_13 : decode cX1_housesAhead 13 = .ok (.getfield 54, 3) := by decide +kernel
theorem dX1_housesAhead_16 : decode cX1_housesAhead 16 = .ok (.iload_n 3, 1) := by decide +kernel
theorem dX1_housesAhead_17 : decode cX1_housesAhead 17 = .ok (.iaload, 1) := by decide +kernel
theorem dX1_housesAhead_18 : decode cX1_housesAhead 18 = .ok (.aload_n 0, 1) := by decide +kernel
theorem dX1_housesAhead_19 : decode cX1_housesAhead 19 = .ok (.getfield 54, 3) := by decide +kernel
theorem dX1_housesAhead_22 : decode cX1_housesAhead 22 = .ok (.iload_n 1, 1) := by decide +kernel
theorem dX1_housesAhead_23 : decode cX1_housesAhead 23 = .ok (.iaload, 1) := by decide +kernel
theorem dX1_housesAhead_24 : decode cX1_housesAhead 24 = .ok (.if_icmp .ne 12, 3) := by decide +kernel
theorem dX1_housesAhead_27 : decode cX1_housesAhead 27 = .ok (.iload_n 3, 1) := by decide +kernel
theorem dX1_housesAhead_28 : decode cX1_housesAhead 28 = .ok (.iload_n 1, 1) := by decide +kernel
theorem dX1_housesAhead_29 : decode cX1_housesAhead 29 = .ok (.if_icmp .ge 7, 3) := by decide +kernel
theorem dX1_housesAhead_32 : decode cX1_housesAhead 32 = .ok (.iconst 1, 1) := by decide +kernel
theorem dX1_housesAhead_33 : decode cX1_housesAhead 33 = .ok (.goto 4, 3) := by decide +kernel
theorem dX1_housesAhead_36 : decode cX1_housesAhead 36 = .ok (.iconst 0, 1) := by decide +kernel
theorem dX1_housesAhead_37 : decode cX1_housesAhead 37 = .ok (.istore 4, 2) := by decide +kernel
theorem dX1_housesAhead_39 : decode cX1_housesAhead 39 = .ok (.aload_n 0, 1) := by decide +kernel
theorem dX1_housesAhead_40 : decode cX1_housesAhead 40 = .ok (.getfield 54, 3) := by decide +kernel
theorem dX1_housesAhead_43 : decode cX1_housesAhead 43 = .ok (.iload_n 3, 1) := by decide +kernel
theorem dX1_housesAhead_44 : decode cX1_housesAhead 44 = .ok (.iaload, 1) := by decide +kernel
theorem dX1_housesAhead_45 : decode cX1_housesAhead 45 = .ok (.aload_n 0, 1) := by decide +kernel
theorem dX1_housesAhead_46 : decode cX1_housesAhead 46 = .ok (.getfield 54, 3) := by decide +kernel
theorem dX1_housesAhead_49 : decode cX1_housesAhead 49 = .ok (.iload_n 1, 1) := by decide +kernel
theorem dX1_housesAhead_50 : decode cX1_housesAhead 50 = .ok (.iaload, 1) := by decide +kernel
theorem dX1_housesAhead_51 : decode cX1_housesAhead 51 = .ok (.if_icmp .gt 8, 3) := by decide +kernel
theorem dX1_housesAhead_54 : decode cX1_housesAhead 54 = .ok (.iload 4, 2) := by decide +kernel
theorem dX1_housesAhead_56 : decode cX1_housesAhead 56 = .ok (.ifCond .eq 6, 3) := by decide +kernel
theorem dX1_housesAhead_59 : decode cX1_housesAhead 59 = .ok (.iinc 2 1, 3) := by decide +kernel
theorem dX1_housesAhead_62 : decode cX1_housesAhead 62 = .ok (.iinc 3 1, 3) := by decide +kernel
theorem dX1_housesAhead_65 : decode cX1_housesAhead 65 = .ok (.goto (-61), 3) := by decide +kernel
theorem dX1_housesAhead_68 : decode cX1_housesAhead 68 = .ok (.iload_n 2, 1) := by decide +kernel
theorem dX1_housesAhead_69 : decode cX1_housesAhead 69 = .ok (.ireturn, 1) := by decide +kernel
theorem dX1_greatestCut_0 : decode cX1_greatestCut 0 = .ok (.iconst 0, 1) := by decide +kernel
theorem dX1_greatestCut_1 : decode cX1_greatestCut 1 = .ok (.istore_n 2, 1) := by decide +kernel
theorem dX1_greatestCut_2 : decode cX1_greatestCut 2 = .ok (.iconst 0, 1) := by decide +kernel
theorem dX1_greatestCut_3 : decode cX1_greatestCut 3 = .ok (.istore_n 3, 1) := by decide +kernel
theorem dX1_greatestCut_4 : decode cX1_greatestCut 4 = .ok (.iload_n 3, 1) := by decide +kernel
theorem dX1_greatestCut_5 : decode cX1_greatestCut 5 = .ok (.aload_n 0, 1) := by decide +kernel
theorem dX1_greatestCut_6 : decode cX1_greatestCut 6 = .ok (.getfield 67, 3) := by decide +kernel
theorem dX1_greatestCut_9 : decode cX1_greatestCut 9 = .ok (.if_icmp .ge 51, 3) := by decide +kernel
theorem dX1_greatestCut_12 : decode cX1_greatestCut 12 = .ok (.aload_n 0, 1) := by decide +kernel
theorem dX1_greatestCut_13 : decode cX1_greatestCut 13 = .ok (.getfield 51, 3) := by decide +kernel
theorem dX1_greatestCut_16 : decode cX1_greatestCut 16 = .ok (.iload_n 1, 1) := by decide +kernel
theorem dX1_greatestCut_17 : decode cX1_greatestCut 17 = .ok (.iaload, 1) := by decide +kernel
theorem dX1_greatestCut_18 : decode cX1_greatestCut 18 = .ok (.iconst 1, 1) := by decide +kernel
theorem dX1_greatestCut_19 : decode cX1_greatestCut 19 = .ok (.iload_n 3, 1) := by decide +kernel
theorem dX1_greatestCut_20 : decode cX1_greatestCut 20 = .ok (.ishl, 1) := by decide +kernel
theorem dX1_greatestCut_21 : decode cX1_greatestCut 21 = .ok (.iand, 1) := by decide +kernel
theorem dX1_greatestCut_22 : decode cX1_greatestCut 22 = .ok (.ifCond .eq 7, 3) := by decide +kernel
theorem dX1_greatestCut_25 : decode cX1_greatestCut 25 = .ok (.iconst 1, 1) := by decide +kernel
theorem dX1_greatestCut_26 : decode cX1_greatestCut 26 = .ok (.goto 4, 3) := by decide +kernel
theorem dX1_greatestCut_29 : decode cX1_greatestCut 29 = .ok (.iconst 0, 1) := by decide +kernel
theorem dX1_greatestCut_30 : decode cX1_greatestCut 30 = .ok (.istore 4, 2) := by decide +kernel
theorem dX1_greatestCut_32 : decode cX1_greatestCut 32 = .ok (.iload 4, 2) := by decide +kernel
theorem dX1_greatestCut_34 : decode cX1_greatestCut 34 = .ok (.ifCond .eq 20, 3) := by decide +kernel
theorem dX1_greatestCut_37 : decode cX1_greatestCut 37 = .ok (.aload_n 0, 1) := by decide +kernel
theorem dX1_greatestCut_38 : decode cX1_greatestCut 38 = .ok (.getfield 42, 3) := by decide +kernel
theorem dX1_greatestCut_41 : decode cX1_greatestCut 41 = .ok (.iload_n 3, 1) := by decide +kernel
theorem dX1_greatestCut_42 : decode cX1_greatestCut 42 = .ok (.iaload, 1) := by decide +kernel
theorem dX1_greatestCut_43 : decode cX1_greatestCut 43 = .ok (.iload_n 2, 1) := by decide +kernel
theorem dX1_greatestCut_44 : decode cX1_greatestCut 44 = .ok (.if_icmp .le 10, 3) := by decide +kernel
theorem dX1_greatestCut_47 : decode cX1_greatestCut 47 = .ok (.aload_n 0, 1) := by decide +kernel
theorem dX1_greatestCut_48 : decode cX1_greatestCut 48 = .ok (.getfield 42, 3) := by decide +kernel
theorem dX1_greatestCut_51 : decode cX1_greatestCut 51 = .ok (.iload_n 3, 1) := by decide +kernel
theorem dX1_greatestCut_52 : decode cX1_greatestCut 52 = .ok (.iaload, 1) := by decide +kernel
theorem dX1_greatestCut_53 : decode cX1_greatestCut 53 = .ok (.istore_n 2, 1) := by decide +kernel
theorem dX1_greatestCut_54 : decode cX1_greatestCut 54 = .ok (.iinc 3 1, 3) := by decide +kernel
theorem dX1_greatestCut_57 : decode cX1_greatestCut 57 = .ok (.goto (-53), 3) := by decide +kernel
theorem dX1_greatestCut_60 : decode cX1_greatestCut 60 = .ok (.iload_n 2, 1) := by decide +kernel
theorem dX1_greatestCut_61 : decode cX1_greatestCut 61 = .ok (.ireturn, 1) := by decide +kernel
set_option maxRecDepth 20000 in
theorem ggX1_measurePair_X1_pairOf : GoodIn wsX1_measurePair wsX1_pairOf := goodIn_r _ [10] (by decide +kernel) (by decide +kernel)
set_option maxRecDepth 20000 in
theorem gX1_measurePair_X1_pairOf : GoodIn wsX1_measurePair (va_wsS RX1 82 yX1_pairOf wsX1_pairOf) := goodIn_app (goodIn_of _ (by decide +kernel)) ggX1_measurePair_X1_pairOf
set_option maxRecDepth 20000 in
theorem ggX1_measurePair_X1_doublingsOf : GoodIn wsX1_measurePair wsX1_doublingsOf := goodIn_r _ [13] (by decide +kernel) (by decide +kernel)
set_option maxRecDepth 20000 in
theorem gX1_measurePair_X1_doublingsOf : GoodIn wsX1_measurePair (va_wsS RX1 111 yX1_doublingsOf wsX1_doublingsOf) := goodIn_app (goodIn_of _ (by decide +kernel)) ggX1_measurePair_X1_doublingsOf
set_option maxRecDepth 20000 in
theorem ggX1_measurePair_X1_noteIfBetween : GoodIn wsX1_measurePair wsX1_noteIfBetween := goodIn_r _ [17, 18, 19, 20, 21, 9, 22, 1, 3, 2, 4, 23, 24, 25, 26, 27, 28, 29, 30, 31, 32, 33, 34, 35, 36, 37, 38, 39, 40, 41, 42, 7, 8, 10, 43, 44, 45, 46, 47, 48, 49, 50, 51, 52, 53, 54, 55, 56, 57, 58, 59, 60, 61] (by decide +kernel) (by decide +kernel)
set_option maxRecDepth 20000 in
theorem gX1_measurePair_X1_noteIfBetween : GoodIn wsX1_measurePair (wsV RX1 74 RX1 yX1_noteIfBetween wsX1_noteIfBetween) := goodIn_app (goodIn_of _ (by decide +kernel)) ggX1_measurePair_X1_noteIfBetween
theorem dX1_measurePair_0 : decode cX1_measurePair 0 = .ok (.aload_n 0, 1) := by decide +kernel
theorem dX1_measurePair_1 : decode cX1_measurePair 1 = .ok (.getfield 11, 3) := by decide +kernel
theorem dX1_measurePair_4 : decode cX1_measurePair 4 = .ok (.iload_n 1, 1) := by decide +kernel
theorem dX1_measurePair_5 : decode cX1_measurePair 5 = .ok (.iaload, 1) := by decide +kernel
theorem dX1_measurePair_6 : decode cX1_measurePair 6 = .ok (.aload_n 0, 1) := by decide +kernel
theorem dX1_measurePair_7 : decode cX1_measurePair 7 = .ok (.getfield 21, 3) := by decide +kernel
theorem dX1_measurePair_10 : decode cX1_measurePair 10 = .ok (.iload_n 2, 1) := by decide +kernel
theorem dX1_measurePair_11 : decode cX1_measurePair 11 = .ok (.iaload, 1) := by decide +kernel
theorem dX1_measurePair_12 : decode cX1_measurePair 12 = .ok (.isub, 1) := by decide +kernel
theorem dX1_measurePair_13 : decode cX1_measurePair 13 = .ok (.istore_n 3, 1) := by decide +kernel
theorem dX1_measurePair_14 : decode cX1_measurePair 14 = .ok (.aload_n 0, 1) := by decide +kernel
theorem dX1_measurePair_15 : decode cX1_measurePair 15 = .ok (.getfield 15, 3) := by decide +kernel
theorem dX1_measurePair_18 : decode cX1_measurePair 18 = .ok (.iload_n 1, 1) := by decide +kernel
theorem dX1_measurePair_19 : decode cX1_measurePair 19 = .ok (.iaload, 1) := by decide +kernel
theorem dX1_measurePair_20 : decode cX1_measurePair 20 = .ok (.aload_n 0, 1) := by decide +kernel
theorem dX1_measurePair_21 : decode cX1_measurePair 21 = .ok (.getfield 24, 3) := by decide +kernel
theorem dX1_measurePair_24 : decode cX1_measurePair 24 = .ok (.iload_n 2, 1) := by decide +kernel
theorem dX1_measurePair_25 : decode cX1_measurePair 25 = .ok (.iaload, 1) := by decide +kernel
theorem dX1_measurePair_26 : decode cX1_measurePair 26 = .ok (.isub, 1) := by decide +kernel
theorem dX1_measurePair_27 : decode cX1_measurePair 27 = .ok (.istore 4, 2) := by decide +kernel
theorem dX1_measurePair_29 : decode cX1_measurePair 29 = .ok (.aload_n 0, 1) := by decide +kernel
theorem dX1_measurePair_30 : decode cX1_measurePair 30 = .ok (.getfield 48, 3) := by decide +kernel
theorem dX1_measurePair_33 : decode cX1_measurePair 33 = .ok (.iload_n 1, 1) := by decide +kernel
theorem dX1_measurePair_34 : decode cX1_measurePair 34 = .ok (.iload_n 2, 1) := by decide +kernel
theorem dX1_measurePair_35 : decode cX1_measurePair 35 = .ok (.invokestatic 82, 3) := by decide +kernel
theorem dX1_measurePair_38 : decode cX1_measurePair 38 = .ok (.iload_n 3, 1) := by decide +kernel
theorem dX1_measurePair_39 : decode cX1_measurePair 39 = .ok (.iload_n 3, 1) := by decide +kernel
theorem dX1_measurePair_40 : decode cX1_measurePair 40 = .ok (.imul, 1) := by decide +kernel
theorem dX1_measurePair_41 : decode cX1_measurePair 41 = .ok (.iload 4, 2) := by decide +kernel
theorem dX1_measurePair_43 : decode cX1_measurePair 43 = .ok (.iload 4, 2) := by decide +kernel
theorem dX1_measurePair_45 : decode cX1_measurePair 45 = .ok (.imul, 1) := by decide +kernel
theorem dX1_measurePair_46 : decode cX1_measurePair 46 = .ok (.iadd, 1) := by decide +kernel
theorem dX1_measurePair_47 : decode cX1_measurePair 47 = .ok (.invokestatic 111, 3) := by decide +kernel
theorem dX1_measurePair_50 : decode cX1_measurePair 50 = .ok (.iastore, 1) := by decide +kernel
theorem dX1_measurePair_51 : decode cX1_measurePair 51 = .ok (.iconst 0, 1) := by decide +kernel
theorem dX1_measurePair_52 : decode cX1_measurePair 52 = .ok (.istore 5, 2) := by decide +kernel
theorem dX1_measurePair_54 : decode cX1_measurePair 54 = .ok (.iload 5, 2) := by decide +kernel
theorem dX1_measurePair_56 : decode cX1_measurePair 56 = .ok (.aload_n 0, 1) := by decide +kernel
theorem dX1_measurePair_57 : decode cX1_measurePair 57 = .ok (.getfield 67, 3) := by decide +kernel
theorem dX1_measurePair_60 : decode cX1_measurePair 60 = .ok (.if_icmp .ge 17, 3) := by decide +kernel
theorem dX1_measurePair_63 : decode cX1_measurePair 63 = .ok (.aload_n 0, 1) := by decide +kernel
theorem dX1_measurePair_64 : decode cX1_measurePair 64 = .ok (.iload 5, 2) := by decide +kernel
theorem dX1_measurePair_66 : decode cX1_measurePair 66 = .ok (.iload_n 1, 1) := by decide +kernel
theorem dX1_measurePair_67 : decode cX1_measurePair 67 = .ok (.iload_n 2, 1) := by decide +kernel
theorem dX1_measurePair_68 : decode cX1_measurePair 68 = .ok (.invokevirtual 74, 3) := by decide +kernel
theorem dX1_measurePair_71 : decode cX1_measurePair 71 = .ok (.iinc 5 1, 3) := by decide +kernel
theorem dX1_measurePair_74 : decode cX1_measurePair 74 = .ok (.goto (-20), 3) := by decide +kernel
theorem dX1_measurePair_77 : decode cX1_measurePair 77 = .ok (.return_, 1) := by decide +kernel
set_option maxRecDepth 20000 in
theorem ggX1_noteIfBetween_X1_isBetween : GoodIn wsX1_noteIfBetween wsX1_isBetween := goodIn_r _ [6, 7, 8, 9, 10, 11, 12, 13, 14, 15, 16, 5, 17, 18, 19, 20, 21, 22, 23, 24, 25, 26, 27, 28, 29, 30, 34, 35, 36, 37, 38, 39, 40, 41, 42, 43, 44, 45, 46, 47, 48, 49, 50, 51, 52] (by decide +kernel) (by decide +kernel)
set_option maxRecDepth 20000 in
theorem gX1_noteIfBetween_X1_isBetween : GoodIn wsX1_noteIfBetween (wsV RX1 114 RX1 yX1_isBetween wsX1_isBetween) := goodIn_app (goodIn_of _ (by decide +kernel)) ggX1_noteIfBetween_X1_isBetween
set_option maxRecDepth 20000 in
theorem ggX1_noteIfBetween_X1_pairOf : GoodIn wsX1_noteIfBetween wsX1_pairOf := goodIn_r _ [33] (by decide +kernel) (by decide +kernel)
set_option maxRecDepth 20000 in
theorem gX1_noteIfBetween_X1_pairOf : GoodIn wsX1_noteIfBetween (va_wsS RX1 82 yX1_pairOf wsX1_pairOf) := goodIn_app (goodIn_of _ (by decide +kernel)) ggX1_noteIfBetween_X1_pairOf
theorem dX1_noteIfBetween_0 : decode cX1_noteIfBetween 0 = .ok (.aload_n 0, 1) := by decide +kernel
theorem dX1_noteIfBetween_1 : decode cX1_noteIfBetween 1 = .ok (.iload_n 1, 1) := by decide +kernel
theorem dX1_noteIfBetween_2 : decode cX1_noteIfBetween 2 = .ok (.iload_n 2, 1) := by decide +kernel
theorem dX1_noteIfBetween_3 : decode cX1_noteIfBetween 3 = .ok (.iload_n 3, 1) := by decide +kernel
theorem dX1_noteIfBetween_4 : decode cX1_noteIfBetween 4 = .ok (.invokevirtual 114, 3) := by decide +kernel
theorem dX1_noteIfBetween_7 : decode cX1_noteIfBetween 7 = .ok (.ifCond .eq 19, 3) := by decide +kernel
theorem dX1_noteIfBetween_10 : decode cX1_noteIfBetween 10 = .ok (.aload_n 0, 1) := by decide +kernel
theorem dX1_noteIfBetween_11 : decode cX1_noteIfBetween 11 = .ok (.getfield 51, 3) := by decide +kernel
theorem dX1_noteIfBetween_14 : decode cX1_noteIfBetween 14 = .ok (.iload_n 2, 1) := by decide +kernel
theorem dX1_noteIfBetween_15 : decode cX1_noteIfBetween 15 = .ok (.iload_n 3, 1) := by decide +kernel
theorem dX1_noteIfBetween_16 : decode cX1_noteIfBetween 16 = .ok (.invokestatic 82, 3) := by decide +kernel
theorem dX1_noteIfBetween_19 : decode cX1_noteIfBetween 19 = .ok (.dup2, 1) := by decide +kernel
theorem dX1_noteIfBetween_20 : decode cX1_noteIfBetween 20 = .ok (.iaload, 1) := by decide +kernel
theorem dX1_noteIfBetween_21 : decode cX1_noteIfBetween 21 = .ok (.iconst 1, 1) := by decide +kernel
theorem dX1_noteIfBetween_22 : decode cX1_noteIfBetween 22 = .ok (.iload_n 1, 1) := by decide +kernel
theorem dX1_noteIfBetween_23 : decode cX1_noteIfBetween 23 = .ok (.ishl, 1) := by decide +kernel
theorem dX1_noteIfBetween_24 : decode cX1_noteIfBetween 24 = .ok (.ior, 1) := by decide +kernel
theorem dX1_noteIfBetween_25 : decode cX1_noteIfBetween 25 = .ok (.iastore, 1) := by decide +kernel
theorem dX1_noteIfBetween_26 : decode cX1_noteIfBetween 26 = .ok (.return_, 1) := by decide +kernel
set_option maxRecDepth 20000 in
theorem ggX1_isBetween_X1_spansMeet : GoodIn wsX1_isBetween wsX1_spansMeet := goodIn_r _ [12, 13, 14, 15, 16, 17, 18, 19] (by decide +kernel) (by decide +kernel)
set_option maxRecDepth 20000 in
theorem gX1_isBetween_X1_spansMeet : GoodIn wsX1_isBetween (va_wsS RX1 118 yX1_spansMeet wsX1_spansMeet) := goodIn_app (goodIn_of _ (by decide +kernel)) ggX1_isBetween_X1_spansMeet
set_option maxRecDepth 20000 in
theorem ggX1_isBetween_X1_turn : GoodIn wsX1_isBetween wsX1_turn := goodIn_r _ [22] (by decide +kernel) (by decide +kernel)
set_option maxRecDepth 20000 in
theorem gX1_isBetween_X1_turn : GoodIn wsX1_isBetween (va_wsS RX1 122 yX1_turn wsX1_turn) := goodIn_app (goodIn_of _ (by decide +kernel)) ggX1_isBetween_X1_turn
set_option maxRecDepth 20000 in
theorem ggX1_isBetween_X1_onOneSide : GoodIn wsX1_isBetween wsX1_onOneSide := goodIn_r _ [25] (by decide +kernel) (by decide +kernel)
set_option maxRecDepth 20000 in
theorem gX1_isBetween_X1_onOneSide : GoodIn wsX1_isBetween (va_wsS RX1 126 yX1_onOneSide wsX1_onOneSide) := goodIn_app (goodIn_of _ (by decide +kernel)) ggX1_isBetween_X1_onOneSide
theorem dX1_isBetween_0 : decode cX1_isBetween 0 = .ok (.aload_n 0, 1) := by decide +kernel
theorem dX1_isBetween_1 : decode cX1_isBetween 1 = .ok (.getfield 11, 3) := by decide +kernel
theorem dX1_isBetween_4 : decode cX1_isBetween 4 = .ok (.iload_n 2, 1) := by decide +kernel
theorem dX1_isBetween_5 : decode cX1_isBetween 5 = .ok (.iaload, 1) := by decide +kernel
theorem dX1_isBetween_6 : decode cX1_isBetween 6 = .ok (.istore 4, 2) := by decide +kernel
theorem dX1_isBetween_8 : decode cX1_isBetween 8 = .ok (.aload_n 0, 1) := by decide +kernel
theorem dX1_isBetween_9 : decode cX1_isBetween 9 = .ok (.getfield 15, 3) := by decide +kernel
theorem dX1_isBetween_12 : decode cX1_isBetween 12 = .ok (.iload_n 2, 1) := by decide +kernel
theorem dX1_isBetween_13 : decode cX1_isBetween 13 = .ok (.iaload, 1) := by decide +kernel
theorem dX1_isBetween_14 : decode cX1_isBetween 14 = .ok (.istore 5, 2) := by decide +kernel
theorem dX1_isBetween_16 : decode cX1_isBetween 16 = .ok (.aload_n 0, 1) := by decide +kernel
theorem dX1_isBetween_17 : decode cX1_isBetween 17 = .ok (.getfield 21, 3) := by decide +kernel
theorem dX1_isBetween_20 : decode cX1_isBetween 20 = .ok (.iload_n 3, 1) := by decide +kernel
theorem dX1_isBetween_21 : decode cX1_isBetween 21 = .ok (.iaload, 1) := by decide +kernel
theorem dX1_isBetween_22 : decode cX1_isBetween 22 = .ok (.istore 6, 2) := by decide +kernel
theorem dX1_isBetween_24 : decode cX1_isBetween 24 = .ok (.aload_n 0, 1) := by decide +kernel
theorem dX1_isBetween_25 : decode cX1_isBetween 25 = .ok (.getfield 24, 3) := by decide +kernel
theorem dX1_isBetween_28 : decode cX1_isBetween 28 = .ok (.iload_n 3, 1) := by decide +kernel
theorem dX1_isBetween_29 : decode cX1_isBetween 29 = .ok (.iaload, 1) := by decide +kernel
theorem dX1_isBetween_30 : decode cX1_isBetween 30 = .ok (.istore 7, 2) := by decide +kernel
theorem dX1_isBetween_32 : decode cX1_isBetween 32 = .ok (.aload_n 0, 1) := by decide +kernel
theorem dX1_isBetween_33 : decode cX1_isBetween 33 = .ok (.getfield 30, 3) := by decide +kernel
theorem dX1_isBetween_36 : decode cX1_isBetween 36 = .ok (.iload_n 1, 1) := by decide +kernel
theorem dX1_isBetween_37 : decode cX1_isBetween 37 = .ok (.iaload, 1) := by decide +kernel
theorem dX1_isBetween_38 : decode cX1_isBetween 38 = .ok (.istore 8, 2) := by decide +kernel
theorem dX1_isBetween_40 : decode cX1_isBetween 40 = .ok (.aload_n 0, 1) := by decide +kernel
theorem dX1_isBetween_41 : decode cX1_isBetween 41 = .ok (.getfield 33, 3) := by decide +kernel
theorem dX1_isBetween_44 : decode cX1_isBetween 44 = .ok (.iload_n 1, 1) := by decide +kernel
theorem dX1_isBetween_45 : decode cX1_isBetween 45 = .ok (.iaload, 1) := by decide +kernel
theorem dX1_isBetween_46 : decode cX1_isBetween 46 = .ok (.istore 9, 2) := by decide +kernel
theorem dX1_isBetween_48 : decode cX1_isBetween 48 = .ok (.aload_n 0, 1) := by decide +kernel
theorem dX1_isBetween_49 : decode cX1_isBetween 49 = .ok (.getfield 36, 3) := by decide +kernel
theorem dX1_isBetween_52 : decode cX1_isBetween 52 = .ok (.iload_n 1, 1) := by decide +kernel
theorem dX1_isBetween_53 : decode cX1_isBetween 53 = .ok (.iaload, 1) := by decide +kernel
theorem dX1_isBetween_54 : decode cX1_isBetween 54 = .ok (.istore 10, 2) := by decide +kernel
theorem dX1_isBetween_56 : decode cX1_isBetween 56 = .ok (.aload_n 0, 1) := by decide +kernel
theorem dX1_isBetween_57 : decode cX1_isBetween 57 = .ok (.getfield 39, 3) := by decide +kernel
theorem dX1_isBetween_60 : decode cX1_isBetween 60 = .ok (.iload_n 1, 1) := by decide +kernel
theorem dX1_isBetween_61 : decode cX1_isBetween 61 = .ok (.iaload, 1) := by decide +kernel
theorem dX1_isBetween_62 : decode cX1_isBetween 62 = .ok (.istore 11, 2) := by decide +kernel
theorem dX1_isBetween_64 : decode cX1_isBetween 64 = .ok (.iload 4, 2) := by decide +kernel
theorem dX1_isBetween_66 : decode cX1_isBetween 66 = .ok (.iload 6, 2) := by decide +kernel
theorem dX1_isBetween_68 : decode cX1_isBetween 68 = .ok (.iload 8, 2) := by decide +kernel
theorem dX1_isBetween_70 : decode cX1_isBetween 70 = .ok (.iload 10, 2) := by decide +kernel
theorem dX1_isBetween_72 : decode cX1_isBetween 72 = .ok (.invokestatic 118, 3) := by decide +kernel
theorem dX1_isBetween_75 : decode cX1_isBetween 75 = .ok (.ifCond .eq 93, 3) := by decide +kernel
theorem dX1_isBetween_78 : decode cX1_isBetween 78 = .ok (.iload 5, 2) := by decide +kernel
theorem dX1_isBetween_80 : decode cX1_isBetween 80 = .ok (.iload 7, 2) := by decide +kernel
theorem dX1_isBetween_82 : decode cX1_isBetween 82 = .ok (.iload 9, 2) := by decide +kernel
theorem dX1_isBetween_84 : decode cX1_isBetween 84 = .ok (.iload 11, 2) := by decide +kernel
theorem dX1_isBetween_86 : decode cX1_isBetween 86 = .ok (.invokestatic 118, 3) := by decide +kernel
theorem dX1_isBetween_89 : decode cX1_isBetween 89 = .ok (.ifCond .eq 79, 3) := by decide +kernel
theorem dX1_isBetween_92 : decode cX1_isBetween 92 = .ok (.iload 4, 2) := by decide +kernel
theorem dX1_isBetween_94 : decode cX1_isBetween 94 = .ok (.iload 5, 2) := by decide +kernel
theorem dX1_isBetween_96 : decode cX1_isBetween 96 = .ok (.iload 6, 2) := by decide +kernel
theorem dX1_isBetween_98 : decode cX1_isBetween 98 = .ok (.iload 7, 2) := by decide +kernel
theorem dX1_isBetween_100 : decode cX1_isBetween 100 = .ok (.iload 8, 2) := by decide +kernel
theorem dX1_isBetween_102 : decode cX1_isBetween 102 = .ok (.iload 9, 2) := by decide +kernel
theorem dX1_isBetween_104 : decode cX1_isBetween 104 = .ok (.invokestatic 122, 3) := by decide +kernel
theorem dX1_isBetween_107 : decode cX1_isBetween 107 = .ok (.iload 4, 2) := by decide +kernel
theorem dX1_isBetween_109 : decode cX1_isBetween 109 = .ok (.iload 5, 2) := by decide +kernel
theorem dX1_isBetween_111 : decode cX1_isBetween 111 = .ok (.iload 6, 2) := by decide +kernel
theorem dX1_isBetween_113 : decode cX1_isBetween 113 = .ok (.iload 7, 2) := by decide +kernel
theorem dX1_isBetween_115 : decode cX1_isBetween 115 = .ok (.iload 10, 2) := by decide +kernel
theorem dX1_isBetween_117 : decode cX1_isBetween 117 = .ok (.iload 11, 2) := by decide +kernel
theorem dX1_isBetween_119 : decode cX1_isBetween 119 = .ok (.invokestatic 122, 3) := by decide +kernel
theorem dX1_isBetween_122 : decode cX1_isBetween 122 = .ok (.invokestatic 126, 3) := by decide +kernel
theorem dX1_isBetween_125 : decode cX1_isBetween 125 = .ok (.ifCond .ne 43, 3) := by decide +kernel
theorem dX1_isBetween_128 : decode cX1_isBetween 128 = .ok (.iload 8, 2) := by decide +kernel
theorem dX1_isBetween_130 : decode cX1_isBetween 130 = .ok (.iload 9, 2) := by decide +kernel
theorem dX1_isBetween_132 : decode cX1_isBetween 132 = .ok (.iload 10, 2) := by decide +kernel
theorem dX1_isBetween_134 : decode cX1_isBetween 134 = .ok (.iload 11, 2) := by decide +kernel
theorem dX1_isBetween_136 : decode cX1_isBetween 136 = .ok (.iload 4, 2) := by decide +kernel
theorem dX1_isBetween_138 : decode cX1_isBetween 138 = .ok (.iload 5, 2) := by decide +kernel
theorem dX1_isBetween_140 : decode cX1_isBetween 140 = .ok (.invokestatic 122, 3) := by decide +kernel
theorem dX1_isBetween_143 : decode cX1_isBetween 143 = .ok (.iload 8, 2) := by decide +kernel
theorem dX1_isBetween_145 : decode cX1_isBetween 145 = .ok (.iload 9, 2) := by decide +kernel
theorem dX1_isBetween_147 : decode cX1_isBetween 147 = .ok (.iload 10, 2) := by decide +kernel
theorem dX1_isBetween_149 : decode cX1_isBetween 149 = .ok (.iload 11, 2) := by decide +kernel
theorem dX1_isBetween_151 : decode cX1_isBetween 151 = .ok (.iload 6, 2) := by decide +kernel
theorem dX1_isBetween_153 : decode cX1_isBetween 153 = .ok (.iload 7, 2) := by decide +kernel
theorem dX1_isBetween_155 : decode cX1_isBetween 155 = .ok (.invokestatic 122, 3) := by decide +kernel
theorem dX1_isBetween_158 : decode cX1_isBetween 158 = .ok (.invokestatic 126, 3) := by decide +kernel
theorem dX1_isBetween_161 : decode cX1_isBetween 161 = .ok (.ifCond .ne 7, 3) := by decide +kernel
theorem dX1_isBetween_164 : decode cX1_isBetween 164 = .ok (.iconst 1, 1) := by decide +kernel
theorem dX1_isBetween_165 : decode cX1_isBetween 165 = .ok (.goto 4, 3) := by decide +kernel
theorem dX1_isBetween_168 : decode cX1_isBetween 168 = .ok (.iconst 0, 1) := by decide +kernel
theorem dX1_isBetween_169 : decode cX1_isBetween 169 = .ok (.ireturn, 1) := by decide +kernel
theorem dX1_pairOf_0 : decode cX1_pairOf 0 = .ok (.iload_n 0, 1) := by decide +kernel
theorem dX1_pairOf_1 : decode cX1_pairOf 1 = .ok (.bipush 20, 2) := by decide +kernel
theorem dX1_pairOf_3 : decode cX1_pairOf 3 = .ok (.imul, 1) := by decide +kernel
theorem dX1_pairOf_4 : decode cX1_pairOf 4 = .ok (.iload_n 1, 1) := by decide +kernel
theorem dX1_pairOf_5 : decode cX1_pairOf 5 = .ok (.iadd, 1) := by decide +kernel
theorem dX1_pairOf_6 : decode cX1_pairOf 6 = .ok (.ireturn, 1) := by decide +kernel
set_option maxRecDepth 20000 in
theorem ggX1_join_X1_moreByJoining : GoodIn wsX1_join wsX1_moreByJoining := goodIn_r _ [11] (by decide +kernel) (by decide +kernel)
set_option maxRecDepth 20000 in
theorem gX1_join_X1_moreByJoining : GoodIn wsX1_join (va_wsS RX1 133 yX1_moreByJoining wsX1_moreByJoining) := goodIn_app (goodIn_of _ (by decide +kernel)) ggX1_join_X1_moreByJoining
theorem dX1_join_0 : decode cX1_join 0 = .ok (.iload_n 0, 1) := by decide +kernel
theorem dX1_join_1 : decode cX1_join 1 = .ok (.ifCond .eq 7, 3) := by decide +kernel
theorem dX1_join_4 : decode cX1_join 4 = .ok (.iload_n 1, 1) := by decide +kernel
theorem dX1_join_5 : decode cX1_join 5 = .ok (.ifCond .ne 7, 3) := by decide +kernel
theorem dX1_join_8 : decode cX1_join 8 = .ok (.iload_n 0, 1) := by decide +kernel
theorem dX1_join_9 : decode cX1_join 9 = .ok (.iload_n 1, 1) := by decide +kernel
theorem dX1_join_10 : decode cX1_join 10 = .ok (.iadd, 1) := by decide +kernel
theorem dX1_join_11 : decode cX1_join 11 = .ok (.ireturn, 1) := by decide +kernel
theorem dX1_join_12 : decode cX1_join 12 = .ok (.iload_n 0, 1) := by decide +kernel
theorem dX1_join_13 : decode cX1_join 13 = .ok (.iload_n 1, 1) := by decide +kernel
theorem dX1_join_14 : decode cX1_join 14 = .ok (.invokestatic 89, 3) := by decide +kernel
theorem dX1_join_17 : decode cX1_join 17 = .ok (.iload_n 0, 1) := by decide +kernel
theorem dX1_join_18 : decode cX1_join 18 = .ok (.iload_n 1, 1) := by decide +kernel
theorem dX1_join_19 : decode cX1_join 19 = .ok (.isub, 1) := by decide +kernel
theorem dX1_join_20 : decode cX1_join 20 = .ok (.invokestatic 130, 3) := by decide +kernel
theorem dX1_join_23 : decode cX1_join 23 = .ok (.invokestatic 133, 3) := by decide +kernel
theorem dX1_join_26 : decode cX1_join 26 = .ok (.iadd, 1) := by decide +kernel
theorem dX1_join_27 : decode cX1_join 27 = .ok (.ireturn, 1) := by decide +kernel
theorem dX1_moreByJoining_0 : decode cX1_moreByJoining 0 = .ok (.iload_n 0, 1) := by decide +kernel
theorem dX1_moreByJoining_1 : decode cX1_moreByJoining 1 = .ok (.bipush 15, 2) := by decide +kernel
theorem dX1_moreByJoining_3 : decode cX1_moreByJoining 3 = .ok (.if_icmp .ge 6, 3) := by decide +kernel
theorem dX1_moreByJoining_6 : decode cX1_moreByJoining 6 = .ok (.bipush 30, 2) := by decide +kernel
theorem dX1_moreByJoining_8 : decode cX1_moreByJoining 8 = .ok (.ireturn, 1) := by decide +kernel
theorem dX1_moreByJoining_9 : decode cX1_moreByJoining 9 = .ok (.iload_n 0, 1) := by decide +kernel
theorem dX1_moreByJoining_10 : decode cX1_moreByJoining 10 = .ok (.bipush 35, 2) := by decide +kernel
theorem dX1_moreByJoining_12 : decode cX1_moreByJoining 12 = .ok (.if_icmp .ge 6, 3) := by decide +kernel
theorem dX1_moreByJoining_15 : decode cX1_moreByJoining 15 = .ok (.bipush 20, 2) := by decide +kernel
theorem dX1_moreByJoining_17 : decode cX1_moreByJoining 17 = .ok (.ireturn, 1) := by decide +kernel
theorem dX1_moreByJoining_18 : decode cX1_moreByJoining 18 = .ok (.iload_n 0, 1) := by decide +kernel
theorem dX1_moreByJoining_19 : decode cX1_moreByJoining 19 = .ok (.bipush 95, 2) := by decide +kernel
theorem dX1_moreByJoining_21 : decode cX1_moreByJoining 21 = .ok (.if_icmp .ge 8, 3) := by decide +kernel
theorem dX1_moreByJoining_24 : decode cX1_moreByJoining 24 = .ok (.bipush 10, 2) := by decide +kernel
theorem dX1_moreByJoining_26 : decode cX1_moreByJoining 26 = .ok (.goto 4, 3) := by decide +kernel
theorem dX1_moreByJoining_29 : decode cX1_moreByJoining 29 = .ok (.iconst 0, 1) := by decide +kernel
theorem dX1_moreByJoining_30 : decode cX1_moreByJoining 30 = .ok (.ireturn, 1) := by decide +kernel
theorem dX1_doublingsOf_0 : decode cX1_doublingsOf 0 = .ok (.iconst 0, 1) := by decide +kernel
theorem dX1_doublingsOf_1 : decode cX1_doublingsOf 1 = .ok (.istore_n 1, 1) := by decide +kernel
theorem dX1_doublingsOf_2 : decode cX1_doublingsOf 2 = .ok (.sipush 400, 3) := by decide +kernel
theorem dX1_doublingsOf_5 : decode cX1_doublingsOf 5 = .ok (.istore_n 2, 1) := by decide +kernel
theorem dX1_doublingsOf_6 : decode cX1_doublingsOf 6 = .ok (.iload_n 1, 1) := by decide +kernel
theorem dX1_doublingsOf_7 : decode cX1_doublingsOf 7 = .ok (.bipush 10, 2) := by decide +kernel
theorem dX1_doublingsOf_9 : decode cX1_doublingsOf 9 = .ok (.if_icmp .ge 18, 3) := by decide +kernel
theorem dX1_doublingsOf_12 : decode cX1_doublingsOf 12 = .ok (.iload_n 2, 1) := by decide +kernel
theorem dX1_doublingsOf_13 : decode cX1_doublingsOf 13 = .ok (.iload_n 0, 1) := by decide +kernel
theorem dX1_doublingsOf_14 : decode cX1_doublingsOf 14 = .ok (.if_icmp .gt 13, 3) := by decide +kernel
theorem dX1_doublingsOf_17 : decode cX1_doublingsOf 17 = .ok (.iinc 1 1, 3) := by decide +kernel
theorem dX1_doublingsOf_20 : decode cX1_doublingsOf 20 = .ok (.iload_n 2, 1) := by decide +kernel
theorem dX1_doublingsOf_21 : decode cX1_doublingsOf 21 = .ok (.iconst 4, 1) := by decide +kernel
theorem dX1_doublingsOf_22 : decode cX1_doublingsOf 22 = .ok (.imul, 1) := by decide +kernel
theorem dX1_doublingsOf_23 : decode cX1_doublingsOf 23 = .ok (.istore_n 2, 1) := by decide +kernel
theorem dX1_doublingsOf_24 : decode cX1_doublingsOf 24 = .ok (.goto (-18), 3) := by decide +kernel
theorem dX1_doublingsOf_27 : decode cX1_doublingsOf 27 = .ok (.iload_n 1, 1) := by decide +kernel
theorem dX1_doublingsOf_28 : decode cX1_doublingsOf 28 = .ok (.ireturn, 1) := by decide +kernel
theorem dX1_spansMeet_0 : decode cX1_spansMeet 0 = .ok (.iload_n 0, 1) := by decide +kernel
theorem dX1_spansMeet_1 : decode cX1_spansMeet 1 = .ok (.iload_n 1, 1) := by decide +kernel
theorem dX1_spansMeet_2 : decode cX1_spansMeet 2 = .ok (.invokestatic 89, 3) := by decide +kernel
theorem dX1_spansMeet_5 : decode cX1_spansMeet 5 = .ok (.iload_n 2, 1) := by decide +kernel
theorem dX1_spansMeet_6 : decode cX1_spansMeet 6 = .ok (.iload_n 3, 1) := by decide +kernel
theorem dX1_spansMeet_7 : decode cX1_spansMeet 7 = .ok (.invokestatic 136, 3) := by decide +kernel
theorem dX1_spansMeet_10 : decode cX1_spansMeet 10 = .ok (.if_icmp .lt 20, 3) := by decide +kernel
theorem dX1_spansMeet_13 : decode cX1_spansMeet 13 = .ok (.iload_n 2, 1) := by decide +kernel
theorem dX1_spansMeet_14 : decode cX1_spansMeet 14 = .ok (.iload_n 3, 1) := by decide +kernel
theorem dX1_spansMeet_15 : decode cX1_spansMeet 15 = .ok (.invokestatic 89, 3) := by decide +kernel
theorem dX1_spansMeet_18 : decode cX1_spansMeet 18 = .ok (.iload_n 0, 1) := by decide +kernel
theorem dX1_spansMeet_19 : decode cX1_spansMeet 19 = .ok (.iload_n 1, 1) := by decide +kernel
theorem dX1_spansMeet_20 : decode cX1_spansMeet 20 = .ok (.invokestatic 136, 3) := by decide +kernel
theorem dX1_spansMeet_23 : decode cX1_spansMeet 23 = .ok (.if_icmp .lt 7, 3) := by decide +kernel
theorem dX1_spansMeet_26 : decode cX1_spansMeet 26 = .ok (.iconst 1, 1) := by decide +kernel
theorem dX1_spansMeet_27 : decode cX1_spansMeet 27 = .ok (.goto 4, 3) := by decide +kernel
theorem dX1_spansMeet_30 : decode cX1_spansMeet 30 = .ok (.iconst 0, 1) := by decide +kernel
theorem dX1_spansMeet_31 : decode cX1_spansMeet 31 = .ok (.ireturn, 1) := by decide +kernel
theorem dX1_onOneSide_0 : decode cX1_onOneSide 0 = .ok (.iload_n 0, 1) := by decide +kernel
theorem dX1_onOneSide_1 : decode cX1_onOneSide 1 = .ok (.ifCond .le 7, 3) := by decide +kernel
theorem dX1_onOneSide_4 : decode cX1_onOneSide 4 = .ok (.iload_n 1, 1) := by decide +kernel
theorem dX1_onOneSide_5 : decode cX1_onOneSide 5 = .ok (.ifCond .gt 11, 3) := by decide +kernel
theorem dX1_onOneSide_8 : decode cX1_onOneSide 8 = .ok (.iload_n 0, 1) := by decide +kernel
theorem dX1_onOneSide_9 : decode cX1_onOneSide 9 = .ok (.ifCond .ge 11, 3) := by decide +kernel
theorem dX1_onOneSide_12 : decode cX1_onOneSide 12 = .ok (.iload_n 1, 1) := by decide +kernel
theorem dX1_onOneSide_13 : decode cX1_onOneSide 13 = .ok (.ifCond .ge 7, 3) := by decide +kernel
theorem dX1_onOneSide_16 : decode cX1_onOneSide 16 = .ok (.iconst 1, 1) := by decide +kernel
theorem dX1_onOneSide_17 : decode cX1_onOneSide 17 = .ok (.goto 4, 3) := by decide +kernel
theorem dX1_onOneSide_20 : decode cX1_onOneSide 20 = .ok (.iconst 0, 1) := by decide +kernel
theorem dX1_onOneSide_21 : decode cX1_onOneSide 21 = .ok (.ireturn, 1) := by decide +kernel
theorem dX1_turn_0 : decode cX1_turn 0 = .ok (.iload_n 2, 1) := by decide +kernel
theorem dX1_turn_1 : decode cX1_turn 1 = .ok (.iload_n 0, 1) := by decide +kernel
theorem dX1_turn_2 : decode cX1_turn 2 = .ok (.isub, 1) := by decide +kernel
theorem dX1_turn_3 : decode cX1_turn 3 = .ok (.iload 5, 2) := by decide +kernel
theorem dX1_turn_5 : decode cX1_turn 5 = .ok (.iload_n 1, 1) := by decide +kernel
theorem dX1_turn_6 : decode cX1_turn 6 = .ok (.isub, 1) := by decide +kernel
theorem dX1_turn_7 : decode cX1_turn 7 = .ok (.imul, 1) := by decide +kernel
theorem dX1_turn_8 : decode cX1_turn 8 = .ok (.iload_n 3, 1) := by decide +kernel
theorem dX1_turn_9 : decode cX1_turn 9 = .ok (.iload_n 1, 1) := by decide +kernel
theorem dX1_turn_10 : decode cX1_turn 10 = .ok (.isub, 1) := by decide +kernel
theorem dX1_turn_11 : decode cX1_turn 11 = .ok (.iload 4, 2) := by decide +kernel
theorem dX1_turn_13 : decode cX1_turn 13 = .ok (.iload_n 0, 1) := by decide +kernel
theorem dX1_turn_14 : decode cX1_turn 14 = .ok (.isub, 1) := by decide +kernel
theorem dX1_turn_15 : decode cX1_turn 15 = .ok (.imul, 1) := by decide +kernel
theorem dX1_turn_16 : decode cX1_turn 16 = .ok (.isub, 1) := by decide +kernel
theorem dX1_turn_17 : decode cX1_turn 17 = .ok (.ireturn, 1) := by decide +kernel
