set_option maxRecDepth 20000 in
theorem ggX2_init_X1_init : GoodIn wsX2_init wsX1_init := goodIn_r _ [14, 15, 2, 3, 16, 17, 18, 19, 20, 21, 22, 23, 24, 25, 26, 27, 28, 29, 30, 31, 32, 40, 41, 42, 43, 44, 45, 46, 47, 48, 49, 50, 51, 52, 53, 54, 55, 56, 57, 58] (by decide +kernel) (by decide +kernel)
set_option maxRecDepth 20000 in
theorem gX2_init_X1_init : GoodIn wsX2_init (wsX1_init) := ggX2_init_X1_init
set_option maxRecDepth 20000 in
theorem ggX2_init_X0_init : GoodIn wsX2_init wsX0_init := goodIn_r _ [35, 36, 2, 3, 16, 37, 38, 39, 61, 62, 63, 64] (by decide +kernel) (by decide +kernel)
set_option maxRecDepth 20000 in
theorem gX2_init_X0_init : GoodIn wsX2_init (wsX0_init) := ggX2_init_X0_init
theorem dX2_init_0 : decode cX2_init 0 = .ok (.aload_n 0, 1) := by decide +kernel
theorem dX2_init_1 : decode cX2_init 1 = .ok (.invokespecial 1, 3) := by decide +kernel
theorem dX2_init_4 : decode cX2_init 4 = .ok (.aload_n 0, 1) := by decide +kernel
theorem dX2_init_5 : decode cX2_init 5 = .ok (.new 7, 3) := by decide +kernel
theorem dX2_init_8 : decode cX2_init 8 = .ok (.dup, 1) := by decide +kernel
theorem dX2_init_9 : decode cX2_init 9 = .ok (.invokespecial 9, 3) := by decide +kernel
theorem dX2_init_12 : decode cX2_init 12 = .ok (.putfield 10, 3) := by decide +kernel
theorem dX2_init_15 : decode cX2_init 15 = .ok (.aload_n 0, 1) := by decide +kernel
theorem dX2_init_16 : decode cX2_init 16 = .ok (.new 16, 3) := by decide +kernel
theorem dX2_init_19 : decode cX2_init 19 = .ok (.dup, 1) := by decide +kernel
theorem dX2_init_20 : decode cX2_init 20 = .ok (.invokespecial 18, 3) := by decide +kernel
theorem dX2_init_23 : decode cX2_init 23 = .ok (.putfield 19, 3) := by decide +kernel
theorem dX2_init_26 : decode cX2_init 26 = .ok (.return_, 1) := by decide +kernel
set_option maxRecDepth 20000 in
theorem ggX2_piece_X2_isPoint : GoodIn wsX2_piece wsX2_isPoint := goodIn_r _ [5, 6, 7, 4, 8] (by decide +kernel) (by decide +kernel)
set_option maxRecDepth 20000 in
theorem gX2_piece_X2_isPoint : GoodIn wsX2_piece (va_wsS RX2 23 yX2_isPoint wsX2_isPoint) := goodIn_app (goodIn_of _ (by decide +kernel)) ggX2_piece_X2_isPoint
set_option maxRecDepth 20000 in
theorem ggX2_piece_X2_isLevel : GoodIn wsX2_piece wsX2_isLevel := goodIn_r _ [11, 6, 7, 4, 8] (by decide +kernel) (by decide +kernel)
set_option maxRecDepth 20000 in
theorem gX2_piece_X2_isLevel : GoodIn wsX2_piece (va_wsS RX2 27 yX2_isLevel wsX2_isLevel) := goodIn_app (goodIn_of _ (by decide +kernel)) ggX2_piece_X2_isLevel
set_option maxRecDepth 20000 in
theorem ggX2_piece_X1_addPiece : GoodIn wsX2_piece wsX1_addPiece := goodIn_r _ [16, 17, 18, 19, 20, 21, 22, 23, 24, 15, 25, 26, 27, 28, 29, 30, 31, 32, 33, 34, 35, 36, 37, 38, 39, 40, 41, 42, 43, 44, 45, 46, 47, 48, 49, 50, 51, 52, 53, 54, 55, 56, 57, 58, 59, 60, 61, 62, 63, 64, 67, 68, 69, 70, 71, 72, 73, 74, 75, 76, 77, 78, 79, 80, 81, 82, 83, 84, 85] (by decide +kernel) (by decide +kernel)
set_option maxRecDepth 20000 in
theorem gX2_piece_X1_addPiece : GoodIn wsX2_piece (wsV RX2 31 RX1 yX1_addPiece wsX1_addPiece) := goodIn_app (goodIn_of _ (by decide +kernel)) ggX2_piece_X1_addPiece
theorem dX2_piece_0 : decode cX2_piece 0 = .ok (.iload_n 1, 1) := by decide +kernel
theorem dX2_piece_1 : decode cX2_piece 1 = .ok (.iload_n 2, 1) := by decide +kernel
theorem dX2_piece_2 : decode cX2_piece 2 = .ok (.invokestatic 23, 3) := by decide +kernel
theorem dX2_piece_5 : decode cX2_piece 5 = .ok (.ifCond .eq 26, 3) := by decide +kernel
theorem dX2_piece_8 : decode cX2_piece 8 = .ok (.iload_n 3, 1) := by decide +kernel
theorem dX2_piece_9 : decode cX2_piece 9 = .ok (.invokestatic 27, 3) := by decide +kernel
theorem dX2_piece_12 : decode cX2_piece 12 = .ok (.ifCond .eq 19, 3) := by decide +kernel
theorem dX2_piece_15 : decode cX2_piece 15 = .ok (.iload 4, 2) := by decide +kernel
theorem dX2_piece_17 : decode cX2_piece 17 = .ok (.invokestatic 27, 3) := by decide +kernel
theorem dX2_piece_20 : decode cX2_piece 20 = .ok (.ifCond .eq 11, 3) := by decide +kernel
theorem dX2_piece_23 : decode cX2_piece 23 = .ok (.iload 5, 2) := by decide +kernel
theorem dX2_piece_25 : decode cX2_piece 25 = .ok (.invokestatic 27, 3) := by decide +kernel
theorem dX2_piece_28 : decode cX2_piece 28 = .ok (.ifCond .ne 5, 3) := by decide +kernel
theorem dX2_piece_31 : decode cX2_piece 31 = .ok (.iconst (-1), 1) := by decide +kernel
theorem dX2_piece_32 : decode cX2_piece 32 = .ok (.ireturn, 1) := by decide +kernel
theorem dX2_piece_33 : decode cX2_piece 33 = .ok (.aload_n 0, 1) := by decide +kernel
theorem dX2_piece_34 : decode cX2_piece 34 = .ok (.getfield 10, 3) := by decide +kernel
theorem dX2_piece_37 : decode cX2_piece 37 = .ok (.iload_n 1, 1) := by decide +kernel
theorem dX2_piece_38 : decode cX2_piece 38 = .ok (.iload_n 2, 1) := by decide +kernel
theorem dX2_piece_39 : decode cX2_piece 39 = .ok (.iload_n 3, 1) := by decide +kernel
theorem dX2_piece_40 : decode cX2_piece 40 = .ok (.iload 4, 2) := by decide +kernel
theorem dX2_piece_42 : decode cX2_piece 42 = .ok (.iload 5, 2) := by decide +kernel
theorem dX2_piece_44 : decode cX2_piece 44 = .ok (.invokevirtual 31, 3) := by decide +kernel
theorem dX2_piece_47 : decode cX2_piece 47 = .ok (.ireturn, 1) := by decide +kernel
set_option maxRecDepth 20000 in
theorem ggX2_house_X2_isPoint : GoodIn wsX2_house wsX2_isPoint := goodIn_r _ [5, 6, 7, 4, 8] (by decide +kernel) (by decide +kernel)
set_option maxRecDepth 20000 in
theorem gX2_house_X2_isPoint : GoodIn wsX2_house (va_wsS RX2 23 yX2_isPoint wsX2_isPoint) := goodIn_app (goodIn_of _ (by decide +kernel)) ggX2_house_X2_isPoint
set_option maxRecDepth 20000 in
theorem ggX2_house_X2_isWithin : GoodIn wsX2_house wsX2_isWithin := goodIn_r _ [8] (by decide +kernel) (by decide +kernel)
set_option maxRecDepth 20000 in
theorem gX2_house_X2_isWithin : GoodIn wsX2_house (va_wsS RX2 35 yX2_isWithin wsX2_isWithin) := goodIn_app (goodIn_of _ (by decide +kernel)) ggX2_house_X2_isWithin
set_option maxRecDepth 20000 in
theorem ggX2_house_X1_addHouse : GoodIn wsX2_house wsX1_addHouse := goodIn_r _ [13, 14, 15, 16, 17, 18, 19, 20, 21, 12, 22, 23, 24, 25, 26, 27, 28, 29, 30, 31, 32, 33, 34, 35, 36, 37, 38, 39, 40, 41, 42, 43, 44, 45, 46, 47, 48, 49, 50, 51, 52, 53, 54, 55, 56, 57, 58, 59, 60, 61, 64, 65, 66, 67, 68, 69, 70, 71, 72, 73, 74, 75, 76, 77, 78, 79, 80, 81, 82] (by decide +kernel) (by decide +kernel)
set_option maxRecDepth 20000 in
theorem gX2_house_X1_addHouse : GoodIn wsX2_house (wsV RX2 39 RX1 yX1_addHouse wsX1_addHouse) := goodIn_app (goodIn_of _ (by decide +kernel)) ggX2_house_X1_addHouse
theorem dX2_house_0 : decode cX2_house 0 = .ok (.iload_n 1, 1) := by decide +kernel
theorem dX2_house_1 : decode cX2_house 1 = .ok (.iload_n 2, 1) := by decide +kernel
theorem dX2_house_2 : decode cX2_house 2 = .ok (.invokestatic 23, 3) := by decide +kernel
theorem dX2_house_5 : decode cX2_house 5 = .ok (.ifCond .eq 14, 3) := by decide +kernel
theorem dX2_house_8 : decode cX2_house 8 = .ok (.iload_n 3, 1) := by decide +kernel
theorem dX2_house_9 : decode cX2_house 9 = .ok (.iconst 0, 1) := by decide +kernel
theorem dX2_house_10 : decode cX2_house 10 = .ok (.sipush 1000, 3) := by decide +kernel
theorem dX2_house_13 : decode cX2_house 13 = .ok (.invokestatic 35, 3) := by decide +kernel
theorem dX2_house_16 : decode cX2_house 16 = .ok (.ifCond .ne 5, 3) := by decide +kernel
theorem dX2_house_19 : decode cX2_house 19 = .ok (.iconst (-1), 1) := by decide +kernel
theorem dX2_house_20 : decode cX2_house 20 = .ok (.ireturn, 1) := by decide +kernel
theorem dX2_house_21 : decode cX2_house 21 = .ok (.aload_n 0, 1) := by decide +kernel
theorem dX2_house_22 : decode cX2_house 22 = .ok (.getfield 10, 3) := by decide +kernel
theorem dX2_house_25 : decode cX2_house 25 = .ok (.iload_n 1, 1) := by decide +kernel
theorem dX2_house_26 : decode cX2_house 26 = .ok (.iload_n 2, 1) := by decide +kernel
theorem dX2_house_27 : decode cX2_house 27 = .ok (.iload_n 3, 1) := by decide +kernel
theorem dX2_house_28 : decode cX2_house 28 = .ok (.invokevirtual 39, 3) := by decide +kernel
theorem dX2_house_31 : decode cX2_house 31 = .ok (.ireturn, 1) := by decide +kernel
set_option maxRecDepth 20000 in
theorem ggX2_wall_X2_isPoint : GoodIn wsX2_wall wsX2_isPoint := goodIn_r _ [5, 6, 7, 4, 8] (by decide +kernel) (by decide +kernel)
set_option maxRecDepth 20000 in
theorem gX2_wall_X2_isPoint : GoodIn wsX2_wall (va_wsS RX2 23 yX2_isPoint wsX2_isPoint) := goodIn_app (goodIn_of _ (by decide +kernel)) ggX2_wall_X2_isPoint
set_option maxRecDepth 20000 in
theorem ggX2_wall_X2_isCut : GoodIn wsX2_wall wsX2_isCut := goodIn_r _ [11, 6, 7, 4, 8] (by decide +kernel) (by decide +kernel)
set_option maxRecDepth 20000 in
theorem gX2_wall_X2_isCut : GoodIn wsX2_wall (va_wsS RX2 43 yX2_isCut wsX2_isCut) := goodIn_app (goodIn_of _ (by decide +kernel)) ggX2_wall_X2_isCut
set_option maxRecDepth 20000 in
theorem ggX2_wall_X1_addWall : GoodIn wsX2_wall wsX1_addWall := goodIn_r _ [16, 17, 18, 19, 20, 21, 22, 23, 24, 25, 26, 27, 15, 28, 29, 30, 31, 32, 33, 34, 35, 36, 37, 38, 39, 40, 41, 42, 43, 44, 45, 46, 47, 48, 49, 50, 51, 52, 53, 54, 55, 56, 59, 60, 61, 62, 63, 64, 65, 66, 67, 68, 69, 70, 71, 72, 73, 74, 75, 76, 77] (by decide +kernel) (by decide +kernel)
set_option maxRecDepth 20000 in
theorem gX2_wall_X1_addWall : GoodIn wsX2_wall (wsV RX2 46 RX1 yX1_addWall wsX1_addWall) := goodIn_app (goodIn_of _ (by decide +kernel)) ggX2_wall_X1_addWall
theorem dX2_wall_0 : decode cX2_wall 0 = .ok (.iload_n 1, 1) := by decide +kernel
theorem dX2_wall_1 : decode cX2_wall 1 = .ok (.iload_n 3, 1) := by decide +kernel
theorem dX2_wall_2 : decode cX2_wall 2 = .ok (.if_icmp .ne 13, 3) := by decide +kernel
theorem dX2_wall_5 : decode cX2_wall 5 = .ok (.iload_n 2, 1) := by decide +kernel
theorem dX2_wall_6 : decode cX2_wall 6 = .ok (.iload 4, 2) := by decide +kernel
theorem dX2_wall_8 : decode cX2_wall 8 = .ok (.if_icmp .ne 7, 3) := by decide +kernel
theorem dX2_wall_11 : decode cX2_wall 11 = .ok (.iconst 1, 1) := by decide +kernel
theorem dX2_wall_12 : decode cX2_wall 12 = .ok (.goto 4, 3) := by decide +kernel
theorem dX2_wall_15 : decode cX2_wall 15 = .ok (.iconst 0, 1) := by decide +kernel
theorem dX2_wall_16 : decode cX2_wall 16 = .ok (.istore 6, 2) := by decide +kernel
theorem dX2_wall_18 : decode cX2_wall 18 = .ok (.iload_n 1, 1) := by decide +kernel
theorem dX2_wall_19 : decode cX2_wall 19 = .ok (.iload_n 2, 1) := by decide +kernel
theorem dX2_wall_20 : decode cX2_wall 20 = .ok (.invokestatic 23, 3) := by decide +kernel
theorem dX2_wall_23 : decode cX2_wall 23 = .ok (.ifCond .eq 25, 3) := by decide +kernel
theorem dX2_wall_26 : decode cX2_wall 26 = .ok (.iload_n 3, 1) := by decide +kernel
theorem dX2_wall_27 : decode cX2_wall 27 = .ok (.iload 4, 2) := by decide +kernel
theorem dX2_wall_29 : decode cX2_wall 29 = .ok (.invokestatic 23, 3) := by decide +kernel
theorem dX2_wall_32 : decode cX2_wall 32 = .ok (.ifCond .eq 16, 3) := by decide +kernel
theorem dX2_wall_35 : decode cX2_wall 35 = .ok (.iload 6, 2) := by decide +kernel
theorem dX2_wall_37 : decode cX2_wall 37 = .ok (.ifCond .ne 11, 3) := by decide +kernel
theorem dX2_wall_40 : decode cX2_wall 40 = .ok (.iload 5, 2) := by decide +kernel
theorem dX2_wall_42 : decode cX2_wall 42 = .ok (.invokestatic 43, 3) := by decide +kernel
theorem dX2_wall_45 : decode cX2_wall 45 = .ok (.ifCond .ne 5, 3) := by decide +kernel
theorem dX2_wall_48 : decode cX2_wall 48 = .ok (.iconst (-1), 1) := by decide +kernel
theorem dX2_wall_49 : decode cX2_wall 49 = .ok (.ireturn, 1) := by decide +kernel
theorem dX2_wall_50 : decode cX2_wall 50 = .ok (.aload_n 0, 1) := by decide +kernel
theorem dX2_wall_51 : decode cX2_wall 51 = .ok (.getfield 10, 3) := by decide +kernel
theorem dX2_wall_54 : decode cX2_wall 54 = .ok (.iload_n 1, 1) := by decide +kernel
theorem dX2_wall_55 : decode cX2_wall 55 = .ok (.iload_n 2, 1) := by decide +kernel
theorem dX2_wall_56 : decode cX2_wall 56 = .ok (.iload_n 3, 1) := by decide +kernel
theorem dX2_wall_57 : decode cX2_wall 57 = .ok (.iload 4, 2) := by decide +kernel
theorem dX2_wall_59 : decode cX2_wall 59 = .ok (.iload 5, 2) := by decide +kernel
theorem dX2_wall_61 : decode cX2_wall 61 = .ok (.invokevirtual 46, 3) := by decide +kernel
theorem dX2_wall_64 : decode cX2_wall 64 = .ok (.ireturn, 1) := by decide +kernel
set_option maxRecDepth 20000 in
theorem ggX2_fall_X2_isWithin : GoodIn wsX2_fall wsX2_isWithin := goodIn_r _ [5] (by decide +kernel) (by decide +kernel)
set_option maxRecDepth 20000 in
theorem gX2_fall_X2_isWithin : GoodIn wsX2_fall (va_wsS RX2 35 yX2_isWithin wsX2_isWithin) := goodIn_app (goodIn_of _ (by decide +kernel)) ggX2_fall_X2_isWithin
set_option maxRecDepth 20000 in
theorem ggX2_fall_X1_changeFall : GoodIn wsX2_fall wsX1_changeFall := goodIn_r _ [10, 11, 14, 15, 16, 17, 18, 19, 20, 21, 22, 23, 24, 25, 26, 27, 28, 29, 30, 31, 32] (by decide +kernel) (by decide +kernel)
set_option maxRecDepth 20000 in
theorem gX2_fall_X1_changeFall : GoodIn wsX2_fall (wsV RX2 49 RX1 yX1_changeFall wsX1_changeFall) := goodIn_app (goodIn_of _ (by decide +kernel)) ggX2_fall_X1_changeFall
theorem dX2_fall_0 : decode cX2_fall 0 = .ok (.iload_n 1, 1) := by decide +kernel
theorem dX2_fall_1 : decode cX2_fall 1 = .ok (.iconst 0, 1) := by decide +kernel
theorem dX2_fall_2 : decode cX2_fall 2 = .ok (.bipush 60, 2) := by decide +kernel
theorem dX2_fall_4 : decode cX2_fall 4 = .ok (.invokestatic 35, 3) := by decide +kernel
theorem dX2_fall_7 : decode cX2_fall 7 = .ok (.ifCond .eq 14, 3) := by decide +kernel
theorem dX2_fall_10 : decode cX2_fall 10 = .ok (.aload_n 0, 1) := by decide +kernel
theorem dX2_fall_11 : decode cX2_fall 11 = .ok (.getfield 10, 3) := by decide +kernel
theorem dX2_fall_14 : decode cX2_fall 14 = .ok (.iload_n 1, 1) := by decide +kernel
theorem dX2_fall_15 : decode cX2_fall 15 = .ok (.invokevirtual 49, 3) := by decide +kernel
theorem dX2_fall_18 : decode cX2_fall 18 = .ok (.goto 4, 3) := by decide +kernel
theorem dX2_fall_21 : decode cX2_fall 21 = .ok (.iconst (-1), 1) := by decide +kernel
theorem dX2_fall_22 : decode cX2_fall 22 = .ok (.ireturn, 1) := by decide +kernel
set_option maxRecDepth 20000 in
theorem ggX2_malus_X2_isPart : GoodIn wsX2_malus wsX2_isPart := goodIn_r _ [5, 6, 7, 4, 8] (by decide +kernel) (by decide +kernel)
set_option maxRecDepth 20000 in
theorem gX2_malus_X2_isPart : GoodIn wsX2_malus (va_wsS RX2 53 yX2_isPart wsX2_isPart) := goodIn_app (goodIn_of _ (by decide +kernel)) ggX2_malus_X2_isPart
set_option maxRecDepth 20000 in
theorem ggX2_malus_X2_isWithin : GoodIn wsX2_malus wsX2_isWithin := goodIn_r _ [8] (by decide +kernel) (by decide +kernel)
set_option maxRecDepth 20000 in
theorem gX2_malus_X2_isWithin : GoodIn wsX2_malus (va_wsS RX2 35 yX2_isWithin wsX2_isWithin) := goodIn_app (goodIn_of _ (by decide +kernel)) ggX2_malus_X2_isWithin
set_option maxRecDepth 20000 in
theorem ggX2_malus_X1_changeMalus : GoodIn wsX2_malus wsX1_changeMalus := goodIn_r _ [13, 14, 17, 18, 19, 20, 21, 22, 23, 24, 25, 26, 27, 28, 29, 30, 31, 32, 33, 34, 35] (by decide +kernel) (by decide +kernel)
set_option maxRecDepth 20000 in
theorem gX2_malus_X1_changeMalus : GoodIn wsX2_malus (wsV RX2 56 RX1 yX1_changeMalus wsX1_changeMalus) := goodIn_app (goodIn_of _ (by decide +kernel)) ggX2_malus_X1_changeMalus
theorem dX2_malus_0 : decode cX2_malus 0 = .ok (.iload_n 1, 1) := by decide +kernel
theorem dX2_malus_1 : decode cX2_malus 1 = .ok (.invokestatic 53, 3) := by decide +kernel
theorem dX2_malus_4 : decode cX2_malus 4 = .ok (.ifCond .eq 14, 3) := by decide +kernel
theorem dX2_malus_7 : decode cX2_malus 7 = .ok (.iload_n 2, 1) := by decide +kernel
theorem dX2_malus_8 : decode cX2_malus 8 = .ok (.iconst 0, 1) := by decide +kernel
theorem dX2_malus_9 : decode cX2_malus 9 = .ok (.sipush 200, 3) := by decide +kernel
theorem dX2_malus_12 : decode cX2_malus 12 = .ok (.invokestatic 35, 3) := by decide +kernel
theorem dX2_malus_15 : decode cX2_malus 15 = .ok (.ifCond .ne 5, 3) := by decide +kernel
theorem dX2_malus_18 : decode cX2_malus 18 = .ok (.iconst (-1), 1) := by decide +kernel
theorem dX2_malus_19 : decode cX2_malus 19 = .ok (.ireturn, 1) := by decide +kernel
theorem dX2_malus_20 : decode cX2_malus 20 = .ok (.aload_n 0, 1) := by decide +kernel
theorem dX2_malus_21 : decode cX2_malus 21 = .ok (.getfield 10, 3) := by decide +kernel
theorem dX2_malus_24 : decode cX2_malus 24 = .ok (.iload_n 1, 1) := by decide +kernel
theorem dX2_malus_25 : decode cX2_malus 25 = .ok (.iload_n 2, 1) := by decide +kernel
theorem dX2_malus_26 : decode cX2_malus 26 = .ok (.invokevirtual 56, 3) := by decide +kernel
theorem dX2_malus_29 : decode cX2_malus 29 = .ok (.ireturn, 1) := by decide +kernel
set_option maxRecDepth 20000 in
theorem ggX2_gives_X1_hasPiece : GoodIn wsX2_gives wsX1_hasPiece := goodIn_r _ [6, 7, 43, 44, 45, 46, 47, 48, 49, 50, 51, 52, 53, 54, 55, 56, 57, 58, 59, 60, 61] (by decide +kernel) (by decide +kernel)
set_option maxRecDepth 20000 in
theorem gX2_gives_X1_hasPiece : GoodIn wsX2_gives (wsV RX2 60 RX1 yX1_hasPiece wsX1_hasPiece) := goodIn_app (goodIn_of _ (by decide +kernel)) ggX2_gives_X1_hasPiece
set_option maxRecDepth 20000 in
theorem ggX2_gives_X1_hasHouse : GoodIn wsX2_gives wsX1_hasHouse := goodIn_r _ [11, 12, 43, 44, 45, 46, 47, 48, 49, 50, 51, 52, 53, 54, 55, 56, 57, 58, 59, 60, 61] (by decide +kernel) (by decide +kernel)
set_option maxRecDepth 20000 in
theorem gX2_gives_X1_hasHouse : GoodIn wsX2_gives (wsV RX2 63 RX1 yX1_hasHouse wsX1_hasHouse) := goodIn_app (goodIn_of _ (by decide +kernel)) ggX2_gives_X1_hasHouse
set_option maxRecDepth 20000 in
theorem ggX2_gives_X2_isPart : GoodIn wsX2_gives wsX2_isPart := goodIn_r _ [16, 17, 18, 15, 19] (by decide +kernel) (by decide +kernel)
set_option maxRecDepth 20000 in
theorem gX2_gives_X2_isPart : GoodIn wsX2_gives (va_wsS RX2 53 yX2_isPart wsX2_isPart) := goodIn_app (goodIn_of _ (by decide +kernel)) ggX2_gives_X2_isPart
set_option maxRecDepth 20000 in
theorem ggX2_gives_X1_given : GoodIn wsX2_gives wsX1_given := goodIn_r _ [23, 24, 25, 26, 27, 28, 29, 30, 31, 32, 5, 33, 34, 35, 36, 37, 38, 39, 40, 43, 44, 45, 46, 47, 48, 49, 50, 51, 52, 53, 54, 55, 56, 57, 58, 59, 60, 61] (by decide +kernel) (by decide +kernel)
set_option maxRecDepth 20000 in
theorem gX2_gives_X1_given : GoodIn wsX2_gives (wsV RX2 66 RX1 yX1_given wsX1_given) := goodIn_app (goodIn_of _ (by decide +kernel)) ggX2_gives_X1_given
theorem dX2_gives_0 : decode cX2_gives 0 = .ok (.aload_n 0, 1) := by decide +kernel
theorem dX2_gives_1 : decode cX2_gives 1 = .ok (.getfield 10, 3) := by decide +kernel
theorem dX2_gives_4 : decode cX2_gives 4 = .ok (.iload_n 1, 1) := by decide +kernel
theorem dX2_gives_5 : decode cX2_gives 5 = .ok (.invokevirtual 60, 3) := by decide +kernel
theorem dX2_gives_8 : decode cX2_gives 8 = .ok (.ifCond .eq 21, 3) := by decide +kernel
theorem dX2_gives_11 : decode cX2_gives 11 = .ok (.aload_n 0, 1) := by decide +kernel
theorem dX2_gives_12 : decode cX2_gives 12 = .ok (.getfield 10, 3) := by decide +kernel
theorem dX2_gives_15 : decode cX2_gives 15 = .ok (.iload_n 2, 1) := by decide +kernel
theorem dX2_gives_16 : decode cX2_gives 16 = .ok (.invokevirtual 63, 3) := by decide +kernel
theorem dX2_gives_19 : decode cX2_gives 19 = .ok (.ifCond .eq 10, 3) := by decide +kernel
theorem dX2_gives_22 : decode cX2_gives 22 = .ok (.iload_n 3, 1) := by decide +kernel
theorem dX2_gives_23 : decode cX2_gives 23 = .ok (.invokestatic 53, 3) := by decide +kernel
theorem dX2_gives_26 : decode cX2_gives 26 = .ok (.ifCond .ne 5, 3) := by decide +kernel
theorem dX2_gives_29 : decode cX2_gives 29 = .ok (.iconst (-1), 1) := by decide +kernel
theorem dX2_gives_30 : decode cX2_gives 30 = .ok (.ireturn, 1) := by decide +kernel
theorem dX2_gives_31 : decode cX2_gives 31 = .ok (.aload_n 0, 1) := by decide +kernel
theorem dX2_gives_32 : decode cX2_gives 32 = .ok (.getfield 10, 3) := by decide +kernel
theorem dX2_gives_35 : decode cX2_gives 35 = .ok (.iload_n 1, 1) := by decide +kernel
theorem dX2_gives_36 : decode cX2_gives 36 = .ok (.iload_n 2, 1) := by decide +kernel
theorem dX2_gives_37 : decode cX2_gives 37 = .ok (.iload_n 3, 1) := by decide +kernel
theorem dX2_gives_38 : decode cX2_gives 38 = .ok (.invokevirtual 66, 3) := by decide +kernel
theorem dX2_gives_41 : decode cX2_gives 41 = .ok (.ireturn, 1) := by decide +kernel
set_option maxRecDepth 20000 in
theorem ggX2_level_X1_hasHouse : GoodIn wsX2_level wsX1_hasHouse := goodIn_r _ [6, 7, 58, 59, 60, 61, 62, 63, 64, 65, 66, 67, 68, 69, 70, 71, 72, 73, 74, 75, 76] (by decide +kernel) (by decide +kernel)
set_option maxRecDepth 20000 in
theorem gX2_level_X1_hasHouse : GoodIn wsX2_level (wsV RX2 63 RX1 yX1_hasHouse wsX1_hasHouse) := goodIn_app (goodIn_of _ (by decide +kernel)) ggX2_level_X1_hasHouse
set_option maxRecDepth 20000 in
theorem ggX2_level_X1_allDayLevel : GoodIn wsX2_level wsX1_allDayLevel := goodIn_r _ [11, 12, 13, 14, 15, 16, 17, 18, 19, 5, 20, 21, 22, 23, 24, 25, 26, 27, 28, 29, 30, 31, 32, 33, 34, 35, 36, 37, 38, 39, 40, 41, 42, 43, 44, 45, 46, 47, 58, 59, 60, 61, 62, 63, 64, 65, 66, 67, 68, 69, 70, 71, 72, 73, 74, 75, 76] (by decide +kernel) (by decide +kernel)
set_option maxRecDepth 20000 in
theorem gX2_level_X1_allDayLevel : GoodIn wsX2_level (wsV RX2 69 RX1 yX1_allDayLevel wsX1_allDayLevel) := goodIn_app (goodIn_of _ (by decide +kernel)) ggX2_level_X1_allDayLevel
set_option maxRecDepth 20000 in
theorem ggX2_level_X2_isPart : GoodIn wsX2_level wsX2_isPart := goodIn_r _ [51, 52, 53, 50, 54] (by decide +kernel) (by decide +kernel)
set_option maxRecDepth 20000 in
theorem gX2_level_X2_isPart : GoodIn wsX2_level (va_wsS RX2 53 yX2_isPart wsX2_isPart) := goodIn_app (goodIn_of _ (by decide +kernel)) ggX2_level_X2_isPart
set_option maxRecDepth 20000 in
theorem ggX2_level_X1_partLevel : GoodIn wsX2_level wsX1_partLevel := goodIn_r _ [20, 21, 22, 23, 24, 5, 25, 26, 27, 28, 13, 14, 15, 16, 29, 30, 31, 32, 33, 34, 35, 36, 37, 38, 39, 40, 41, 42, 43, 44, 45, 46, 47, 58, 59, 60, 61, 62, 63, 64, 65, 66, 67, 68, 69, 70, 71, 72, 73, 74, 75, 76] (by decide +kernel) (by decide +kernel)
set_option maxRecDepth 20000 in
theorem gX2_level_X1_partLevel : GoodIn wsX2_level (wsV RX2 72 RX1 yX1_partLevel wsX1_partLevel) := goodIn_app (goodIn_of _ (by decide +kernel)) ggX2_level_X1_partLevel
theorem dX2_level_0 : decode cX2_level 0 = .ok (.aload_n 0, 1) := by decide +kernel
theorem dX2_level_1 : decode cX2_level 1 = .ok (.getfield 10, 3) := by decide +kernel
theorem dX2_level_4 : decode cX2_level 4 = .ok (.iload_n 1, 1) := by decide +kernel
theorem dX2_level_5 : decode cX2_level 5 = .ok (.invokevirtual 63, 3) := by decide +kernel
theorem dX2_level_8 : decode cX2_level 8 = .ok (.ifCond .ne 5, 3) := by decide +kernel
theorem dX2_level_11 : decode cX2_level 11 = .ok (.iconst (-1), 1) := by decide +kernel
theorem dX2_level_12 : decode cX2_level 12 = .ok (.ireturn, 1) := by decide +kernel
theorem dX2_level_13 : decode cX2_level 13 = .ok (.iload_n 2, 1) := by decide +kernel
theorem dX2_level_14 : decode cX2_level 14 = .ok (.iconst 3, 1) := by decide +kernel
theorem dX2_level_15 : decode cX2_level 15 = .ok (.if_icmp .ne 12, 3) := by decide +kernel
theorem dX2_level_18 : decode cX2_level 18 = .ok (.aload_n 0, 1) := by decide +kernel
theorem dX2_level_19 : decode cX2_level 19 = .ok (.getfield 10, 3) := by decide +kernel
theorem dX2_level_22 : decode cX2_level 22 = .ok (.iload_n 1, 1) := by decide +kernel
theorem dX2_level_23 : decode cX2_level 23 = .ok (.invokevirtual 69, 3) := by decide +kernel
theorem dX2_level_26 : decode cX2_level 26 = .ok (.ireturn, 1) := by decide +kernel
theorem dX2_level_27 : decode cX2_level 27 = .ok (.iload_n 2, 1) := by decide +kernel
theorem dX2_level_28 : decode cX2_level 28 = .ok (.invokestatic 53, 3) := by decide +kernel
theorem dX2_level_31 : decode cX2_level 31 = .ok (.ifCond .eq 15, 3) := by decide +kernel
theorem dX2_level_34 : decode cX2_level 34 = .ok (.aload_n 0, 1) := by decide +kernel
theorem dX2_level_35 : decode cX2_level 35 = .ok (.getfield 10, 3) := by decide +kernel
theorem dX2_level_38 : decode cX2_level 38 = .ok (.iload_n 1, 1) := by decide +kernel
theorem dX2_level_39 : decode cX2_level 39 = .ok (.iload_n 2, 1) := by decide +kernel
theorem dX2_level_40 : decode cX2_level 40 = .ok (.invokevirtual 72, 3) := by decide +kernel
theorem dX2_level_43 : decode cX2_level 43 = .ok (.goto 4, 3) := by decide +kernel
theorem dX2_level_46 : decode cX2_level 46 = .ok (.iconst (-1), 1) := by decide +kernel
theorem dX2_level_47 : decode cX2_level 47 = .ok (.ireturn, 1) := by decide +kernel
set_option maxRecDepth 20000 in
theorem ggX2_people_X1_peopleAbove : GoodIn wsX2_people wsX1_peopleAbove := goodIn_r _ [6, 7, 8, 9, 10, 11, 5, 12, 13, 14, 15, 16, 17, 18, 19, 20, 21, 22, 23, 24, 25, 26, 27, 28, 29, 30, 31, 32, 33, 34, 35, 36, 37, 38, 39, 40, 41, 42, 43, 44, 45, 46, 47, 48, 51, 52, 53, 54, 55, 56, 57, 58, 59, 60, 61, 62, 63, 64, 65, 66, 67, 68, 69] (by decide +kernel) (by decide +kernel)
set_option maxRecDepth 20000 in
theorem gX2_people_X1_peopleAbove : GoodIn wsX2_people (wsV RX2 75 RX1 yX1_peopleAbove wsX1_peopleAbove) := goodIn_app (goodIn_of _ (by decide +kernel)) ggX2_people_X1_peopleAbove
theorem dX2_people_0 : decode cX2_people 0 = .ok (.aload_n 0, 1) := by decide +kernel
theorem dX2_people_1 : decode cX2_people 1 = .ok (.getfield 10, 3) := by decide +kernel
theorem dX2_people_4 : decode cX2_people 4 = .ok (.iload_n 1, 1) := by decide +kernel
theorem dX2_people_5 : decode cX2_people 5 = .ok (.invokevirtual 75, 3) := by decide +kernel
theorem dX2_people_8 : decode cX2_people 8 = .ok (.ireturn, 1) := by decide +kernel
set_option maxRecDepth 20000 in
theorem ggX2_loudest_X1_hasHouse : GoodIn wsX2_loudest wsX1_hasHouse := goodIn_r _ [6, 7, 43, 44, 45, 46, 47, 48, 49, 50, 51, 52, 53, 54, 55, 56, 57, 58, 59, 60, 61] (by decide +kernel) (by decide +kernel)
set_option maxRecDepth 20000 in
theorem gX2_loudest_X1_hasHouse : GoodIn wsX2_loudest (wsV RX2 63 RX1 yX1_hasHouse wsX1_hasHouse) := goodIn_app (goodIn_of _ (by decide +kernel)) ggX2_loudest_X1_hasHouse
set_option maxRecDepth 20000 in
theorem ggX2_loudest_X2_isPart : GoodIn wsX2_loudest wsX2_isPart := goodIn_r _ [11, 12, 13, 10, 14] (by decide +kernel) (by decide +kernel)
set_option maxRecDepth 20000 in
theorem gX2_loudest_X2_isPart : GoodIn wsX2_loudest (va_wsS RX2 53 yX2_isPart wsX2_isPart) := goodIn_app (goodIn_of _ (by decide +kernel)) ggX2_loudest_X2_isPart
set_option maxRecDepth 20000 in
theorem ggX2_loudest_X1_loudestPiece : GoodIn wsX2_loudest wsX1_loudestPiece := goodIn_r _ [18, 19, 20, 21, 22, 5, 23, 24, 25, 26, 27, 28, 29, 30, 31, 32, 33, 34, 35, 36, 37, 38, 39, 40, 43, 44, 45, 46, 47, 48, 49, 50, 51, 52, 53, 54, 55, 56, 57, 58, 59, 60, 61] (by decide +kernel) (by decide +kernel)
set_option maxRecDepth 20000 in
theorem gX2_loudest_X1_loudestPiece : GoodIn wsX2_loudest (wsV RX2 78 RX1 yX1_loudestPiece wsX1_loudestPiece) := goodIn_app (goodIn_of _ (by decide +kernel)) ggX2_loudest_X1_loudestPiece
theorem dX2_loudest_0 : decode cX2_loudest 0 = .ok (.aload_n 0, 1) := by decide +kernel
theorem dX2_loudest_1 : decode cX2_loudest 1 = .ok (.getfield 10, 3) := by decide +kernel
theorem dX2_loudest_4 : decode cX2_loudest 4 = .ok (.iload_n 1, 1) := by decide +kernel
theorem dX2_loudest_5 : decode cX2_loudest 5 = .ok (.invokevirtual 63, 3) := by decide +kernel
theorem dX2_loudest_8 : decode cX2_loudest 8 = .ok (.ifCond .eq 10, 3) := by decide +kernel
theorem dX2_loudest_11 : decode cX2_loudest 11 = .ok (.iload_n 2, 1) := by decide +kernel
theorem dX2_loudest_12 : decode cX2_loudest 12 = .ok (.invokestatic 53, 3) := by decide +kernel
theorem dX2_loudest_15 : decode cX2_loudest 15 = .ok (.ifCond .ne 5, 3) := by decide +kernel
theorem dX2_loudest_18 : decode cX2_loudest 18 = .ok (.iconst (-1), 1) := by decide +kernel
theorem dX2_loudest_19 : decode cX2_loudest 19 = .ok (.ireturn, 1) := by decide +kernel
theorem dX2_loudest_20 : decode cX2_loudest 20 = .ok (.aload_n 0, 1) := by decide +kernel
theorem dX2_loudest_21 : decode cX2_loudest 21 = .ok (.getfield 10, 3) := by decide +kernel
theorem dX2_loudest_24 : decode cX2_loudest 24 = .ok (.iload_n 1, 1) := by decide +kernel
theorem dX2_loudest_25 : decode cX2_loudest 25 = .ok (.iload_n 2, 1) := by decide +kernel
theorem dX2_loudest_26 : decode cX2_loudest 26 = .ok (.invokevirtual 78, 3) := by decide +kernel
theorem dX2_loudest_29 : decode cX2_loudest 29 = .ok (.ireturn, 1) := by decide +kernel
set_option maxRecDepth 20000 in
theorem ggX2_ranked_X1_hasHouse : GoodIn wsX2_ranked wsX1_hasHouse := goodIn_r _ [6, 7, 59, 60, 61, 62, 63, 64, 65, 66, 67, 68, 69, 70, 71, 72, 73, 74, 75, 76, 77] (by decide +kernel) (by decide +kernel)
set_option maxRecDepth 20000 in
theorem gX2_ranked_X1_hasHouse : GoodIn wsX2_ranked (wsV RX2 63 RX1 yX1_hasHouse wsX1_hasHouse) := goodIn_app (goodIn_of _ (by decide +kernel)) ggX2_ranked_X1_hasHouse
set_option maxRecDepth 20000 in
theorem ggX2_ranked_X1_houseOfRank : GoodIn wsX2_ranked wsX1_houseOfRank := goodIn_r _ [11, 7, 12, 13, 14, 15, 5, 16, 17, 18, 19, 20, 21, 22, 23, 24, 25, 26, 27, 28, 29, 30, 31, 32, 33, 34, 35, 36, 37, 38, 39, 40, 41, 42, 43, 44, 45, 46, 47, 48, 49, 50, 51, 52, 53, 54, 55, 56, 59, 60, 61, 62, 63, 64, 65, 66, 67, 68, 69, 70, 71, 72, 73, 74, 75, 76, 77] (by decide +kernel) (by decide +kernel)
set_option maxRecDepth 20000 in
theorem gX2_ranked_X1_houseOfRank : GoodIn wsX2_ranked (wsV RX2 81 RX1 yX1_houseOfRank wsX1_houseOfRank) := goodIn_app (goodIn_of _ (by decide +kernel)) ggX2_ranked_X1_houseOfRank
theorem dX2_ranked_0 : decode cX2_ranked 0 = .ok (.aload_n 0, 1) := by decide +kernel
theorem dX2_ranked_1 : decode cX2_ranked 1 = .ok (.getfield 10, 3) := by decide +kernel
theorem dX2_ranked_4 : decode cX2_ranked 4 = .ok (.iload_n 1, 1) := by decide +kernel
theorem dX2_ranked_5 : decode cX2_ranked 5 = .ok (.invokevirtual 63, 3) := by decide +kernel
theorem dX2_ranked_8 : decode cX2_ranked 8 = .ok (.ifCond .eq 14, 3) := by decide +kernel
theorem dX2_ranked_11 : decode cX2_ranked 11 = .ok (.aload_n 0, 1) := by decide +kernel
theorem dX2_ranked_12 : decode cX2_ranked 12 = .ok (.getfield 10, 3) := by decide +kernel
theorem dX2_ranked_15 : decode cX2_ranked 15 = .ok (.iload_n 1, 1) := by decide +kernel
theorem dX2_ranked_16 : decode cX2_ranked 16 = .ok (.invokevirtual 81, 3) := by decide +kernel
theorem dX2_ranked_19 : decode cX2_ranked 19 = .ok (.goto 4, 3) := by decide +kernel
theorem dX2_ranked_22 : decode cX2_ranked 22 = .ok (.iconst (-1), 1) := by decide +kernel
theorem dX2_ranked_23 : decode cX2_ranked 23 = .ok (.ireturn, 1) := by decide +kernel
set_option maxRecDepth 20000 in
theorem ggX2_needed_X1_hasWall : GoodIn wsX2_needed wsX1_hasWall := goodIn_r _ [6, 7, 58, 59, 60, 61, 62, 63, 64, 65, 66, 67, 68, 69, 70, 71, 72, 73, 74, 75, 76] (by decide +kernel) (by decide +kernel)
set_option maxRecDepth 20000 in
theorem gX2_needed_X1_hasWall : GoodIn wsX2_needed (wsV RX2 84 RX1 yX1_hasWall wsX1_hasWall) := goodIn_app (goodIn_of _ (by decide +kernel)) ggX2_needed_X1_hasWall
set_option maxRecDepth 20000 in
theorem ggX2_needed_X1_leastCut : GoodIn wsX2_needed wsX1_leastCut := goodIn_r _ [11, 12, 13, 14, 15, 5, 16, 17, 18, 19, 20, 21, 22, 23, 24, 25, 26, 27, 28, 29, 30, 31, 32, 33, 34, 35, 36, 37, 38, 39, 40, 41, 42, 43, 44, 45, 7, 46, 47, 48, 49, 50, 51, 52, 53, 54, 55, 58, 59, 60, 61, 62, 63, 64, 65, 66, 67, 68, 69, 70, 71, 72, 73, 74, 75, 76] (by decide +kernel) (by decide +kernel)
set_option maxRecDepth 20000 in
theorem gX2_needed_X1_leastCut : GoodIn wsX2_needed (wsV RX2 87 RX1 yX1_leastCut wsX1_leastCut) := goodIn_app (goodIn_of _ (by decide +kernel)) ggX2_needed_X1_leastCut
theorem dX2_needed_0 : decode cX2_needed 0 = .ok (.aload_n 0, 1) := by decide +kernel
theorem dX2_needed_1 : decode cX2_needed 1 = .ok (.getfield 10, 3) := by decide +kernel
theorem dX2_needed_4 : decode cX2_needed 4 = .ok (.iload_n 1, 1) := by decide +kernel
theorem dX2_needed_5 : decode cX2_needed 5 = .ok (.invokevirtual 84, 3) := by decide +kernel
theorem dX2_needed_8 : decode cX2_needed 8 = .ok (.ifCond .eq 15, 3) := by decide +kernel
theorem dX2_needed_11 : decode cX2_needed 11 = .ok (.aload_n 0, 1) := by decide +kernel
theorem dX2_needed_12 : decode cX2_needed 12 = .ok (.getfield 10, 3) := by decide +kernel
theorem dX2_needed_15 : decode cX2_needed 15 = .ok (.iload_n 1, 1) := by decide +kernel
theorem dX2_needed_16 : decode cX2_needed 16 = .ok (.iload_n 2, 1) := by decide +kernel
theorem dX2_needed_17 : decode cX2_needed 17 = .ok (.invokevirtual 87, 3) := by decide +kernel
theorem dX2_needed_20 : decode cX2_needed 20 = .ok (.goto 4, 3) := by decide +kernel
theorem dX2_needed_23 : decode cX2_needed 23 = .ok (.iconst (-1), 1) := by decide +kernel
theorem dX2_needed_24 : decode cX2_needed 24 = .ok (.ireturn, 1) := by decide +kernel
set_option maxRecDepth 20000 in
theorem ggX2_recut_X1_hasWall : GoodIn wsX2_recut wsX1_hasWall := goodIn_r _ [6, 7, 22, 23, 24, 25, 26, 27, 28, 29, 30, 31, 32, 33, 34, 35, 36, 37, 38, 39, 40] (by decide +kernel) (by decide +kernel)
set_option maxRecDepth 20000 in
theorem gX2_recut_X1_hasWall : GoodIn wsX2_recut (wsV RX2 84 RX1 yX1_hasWall wsX1_hasWall) := goodIn_app (goodIn_of _ (by decide +kernel)) ggX2_recut_X1_hasWall
set_option maxRecDepth 20000 in
theorem ggX2_recut_X2_isCut : GoodIn wsX2_recut wsX2_isCut := goodIn_r _ [11, 12, 13, 10, 14] (by decide +kernel) (by decide +kernel)
set_option maxRecDepth 20000 in
theorem gX2_recut_X2_isCut : GoodIn wsX2_recut (va_wsS RX2 43 yX2_isCut wsX2_isCut) := goodIn_app (goodIn_of _ (by decide +kernel)) ggX2_recut_X2_isCut
set_option maxRecDepth 20000 in
theorem ggX2_recut_X1_changeCut : GoodIn wsX2_recut wsX1_changeCut := goodIn_r _ [18, 19, 22, 23, 24, 25, 26, 27, 28, 29, 30, 31, 32, 33, 34, 35, 36, 37, 38, 39, 40] (by decide +kernel) (by decide +kernel)
set_option maxRecDepth 20000 in
theorem gX2_recut_X1_changeCut : GoodIn wsX2_recut (wsV RX2 90 RX1 yX1_changeCut wsX1_changeCut) := goodIn_app (goodIn_of _ (by decide +kernel)) ggX2_recut_X1_changeCut
theorem dX2_recut_0 : decode cX2_recut 0 = .ok (.aload_n 0, 1) := by decide +kernel
theorem dX2_recut_1 : decode cX2_recut 1 = .ok (.getfield 10, 3) := by decide +kernel
theorem dX2_recut_4 : decode cX2_recut 4 = .ok (.iload_n 1, 1) := by decide +kernel
theorem dX2_recut_5 : decode cX2_recut 5 = .ok (.invokevirtual 84, 3) := by decide +kernel
theorem dX2_recut_8 : decode cX2_recut 8 = .ok (.ifCond .eq 22, 3) := by decide +kernel
theorem dX2_recut_11 : decode cX2_recut 11 = .ok (.iload_n 2, 1) := by decide +kernel
theorem dX2_recut_12 : decode cX2_recut 12 = .ok (.invokestatic 43, 3) := by decide +kernel
theorem dX2_recut_15 : decode cX2_recut 15 = .ok (.ifCond .eq 15, 3) := by decide +kernel
theorem dX2_recut_18 : decode cX2_recut 18 = .ok (.aload_n 0, 1) := by decide +kernel
theorem dX2_recut_19 : decode cX2_recut 19 = .ok (.getfield 10, 3) := by decide +kernel
theorem dX2_recut_22 : decode cX2_recut 22 = .ok (.iload_n 1, 1) := by decide +kernel
theorem dX2_recut_23 : decode cX2_recut 23 = .ok (.iload_n 2, 1) := by decide +kernel
theorem dX2_recut_24 : decode cX2_recut 24 = .ok (.invokevirtual 90, 3) := by decide +kernel
theorem dX2_recut_27 : decode cX2_recut 27 = .ok (.goto 4, 3) := by decide +kernel
theorem dX2_recut_30 : decode cX2_recut 30 = .ok (.iconst (-1), 1) := by decide +kernel
theorem dX2_recut_31 : decode cX2_recut 31 = .ok (.ireturn, 1) := by decide +kernel
set_option maxRecDepth 20000 in
theorem ggX2_lamp_X2_isWithin : GoodIn wsX2_lamp wsX2_isWithin := goodIn_r _ [6] (by decide +kernel) (by decide +kernel)
set_option maxRecDepth 20000 in
theorem gX2_lamp_X2_isWithin : GoodIn wsX2_lamp (va_wsS RX2 35 yX2_isWithin wsX2_isWithin) := goodIn_app (goodIn_of _ (by decide +kernel)) ggX2_lamp_X2_isWithin
set_option maxRecDepth 20000 in
theorem ggX2_lamp_X0_changeLight : GoodIn wsX2_lamp wsX0_changeLight := goodIn_r _ [11, 12, 15, 16, 17, 18] (by decide +kernel) (by decide +kernel)
set_option maxRecDepth 20000 in
theorem gX2_lamp_X0_changeLight : GoodIn wsX2_lamp (wsV RX2 94 RX0 yX0_changeLight wsX0_changeLight) := goodIn_app (goodIn_of _ (by decide +kernel)) ggX2_lamp_X0_changeLight
theorem dX2_lamp_0 : decode cX2_lamp 0 = .ok (.iload_n 1, 1) := by decide +kernel
theorem dX2_lamp_1 : decode cX2_lamp 1 = .ok (.iconst 0, 1) := by decide +kernel
theorem dX2_lamp_2 : decode cX2_lamp 2 = .ok (.sipush 300, 3) := by decide +kernel
theorem dX2_lamp_5 : decode cX2_lamp 5 = .ok (.invokestatic 35, 3) := by decide +kernel
theorem dX2_lamp_8 : decode cX2_lamp 8 = .ok (.ifCond .eq 14, 3) := by decide +kernel
theorem dX2_lamp_11 : decode cX2_lamp 11 = .ok (.iload_n 1, 1) := by decide +kernel
theorem dX2_lamp_12 : decode cX2_lamp 12 = .ok (.bipush 10, 2) := by decide +kernel
theorem dX2_lamp_14 : decode cX2_lamp 14 = .ok (.irem, 1) := by decide +kernel
theorem dX2_lamp_15 : decode cX2_lamp 15 = .ok (.ifCond .ne 7, 3) := by decide +kernel
theorem dX2_lamp_18 : decode cX2_lamp 18 = .ok (.iconst 1, 1) := by decide +kernel
theorem dX2_lamp_19 : decode cX2_lamp 19 = .ok (.goto 4, 3) := by decide +kernel
theorem dX2_lamp_22 : decode cX2_lamp 22 = .ok (.iconst 0, 1) := by decide +kernel
theorem dX2_lamp_23 : decode cX2_lamp 23 = .ok (.istore_n 3, 1) := by decide +kernel
theorem dX2_lamp_24 : decode cX2_lamp 24 = .ok (.iload_n 3, 1) := by decide +kernel
theorem dX2_lamp_25 : decode cX2_lamp 25 = .ok (.ifCond .eq 13, 3) := by decide +kernel
theorem dX2_lamp_28 : decode cX2_lamp 28 = .ok (.iload_n 2, 1) := by decide +kernel
theorem dX2_lamp_29 : decode cX2_lamp 29 = .ok (.iconst 0, 1) := by decide +kernel
theorem dX2_lamp_30 : decode cX2_lamp 30 = .ok (.ldc 93, 2) := by decide +kernel
theorem dX2_lamp_32 : decode cX2_lamp 32 = .ok (.invokestatic 35, 3) := by decide +kernel
theorem dX2_lamp_35 : decode cX2_lamp 35 = .ok (.ifCond .ne 5, 3) := by decide +kernel
theorem dX2_lamp_38 : decode cX2_lamp 38 = .ok (.iconst (-1), 1) := by decide +kernel
theorem dX2_lamp_39 : decode cX2_lamp 39 = .ok (.ireturn, 1) := by decide +kernel
theorem dX2_lamp_40 : decode cX2_lamp 40 = .ok (.aload_n 0, 1) := by decide +kernel
theorem dX2_lamp_41 : decode cX2_lamp 41 = .ok (.getfield 19, 3) := by decide +kernel
theorem dX2_lamp_44 : decode cX2_lamp 44 = .ok (.iload_n 1, 1) := by decide +kernel
theorem dX2_lamp_45 : decode cX2_lamp 45 = .ok (.iload_n 2, 1) := by decide +kernel
theorem dX2_lamp_46 : decode cX2_lamp 46 = .ok (.invokevirtual 94, 3) := by decide +kernel
theorem dX2_lamp_49 : decode cX2_lamp 49 = .ok (.ireturn, 1) := by decide +kernel
set_option maxRecDepth 20000 in
theorem ggX2_shines_X0_lightFrom : GoodIn wsX2_shines wsX0_lightFrom := goodIn_r _ [6, 7, 10, 11, 12, 13] (by decide +kernel) (by decide +kernel)
set_option maxRecDepth 20000 in
theorem gX2_shines_X0_lightFrom : GoodIn wsX2_shines (wsV RX2 97 RX0 yX0_lightFrom wsX0_lightFrom) := goodIn_app (goodIn_of _ (by decide +kernel)) ggX2_shines_X0_lightFrom
theorem dX2_shines_0 : decode cX2_shines 0 = .ok (.iload_n 1, 1) := by decide +kernel
theorem dX2_shines_1 : decode cX2_shines 1 = .ok (.ifCond .lt 14, 3) := by decide +kernel
theorem dX2_shines_4 : decode cX2_shines 4 = .ok (.aload_n 0, 1) := by decide +kernel
theorem dX2_shines_5 : decode cX2_shines 5 = .ok (.getfield 19, 3) := by decide +kernel
theorem dX2_shines_8 : decode cX2_shines 8 = .ok (.iload_n 1, 1) := by decide +kernel
theorem dX2_shines_9 : decode cX2_shines 9 = .ok (.invokevirtual 97, 3) := by decide +kernel
theorem dX2_shines_12 : decode cX2_shines 12 = .ok (.goto 4, 3) := by decide +kernel
theorem dX2_shines_15 : decode cX2_shines 15 = .ok (.iconst (-1), 1) := by decide +kernel
theorem dX2_shines_16 : decode cX2_shines 16 = .ok (.ireturn, 1) := by decide +kernel
set_option maxRecDepth 20000 in
theorem ggX2_road_X2_isWithin : GoodIn wsX2_road wsX2_isWithin := goodIn_r _ [5] (by decide +kernel) (by decide +kernel)
set_option maxRecDepth 20000 in
theorem gX2_road_X2_isWithin : GoodIn wsX2_road (va_wsS RX2 35 yX2_isWithin wsX2_isWithin) := goodIn_app (goodIn_of _ (by decide +kernel)) ggX2_road_X2_isWithin
set_option maxRecDepth 20000 in
theorem ggX2_road_X0_changeLength : GoodIn wsX2_road wsX0_changeLength := goodIn_r _ [10, 11, 14, 15, 16, 17] (by decide +kernel) (by decide +kernel)
set_option maxRecDepth 20000 in
theorem gX2_road_X0_changeLength : GoodIn wsX2_road (wsV RX2 100 RX0 yX0_changeLength wsX0_changeLength) := goodIn_app (goodIn_of _ (by decide +kernel)) ggX2_road_X0_changeLength
theorem dX2_road_0 : decode cX2_road 0 = .ok (.iload_n 1, 1) := by decide +kernel
theorem dX2_road_1 : decode cX2_road 1 = .ok (.iconst 0, 1) := by decide +kernel
theorem dX2_road_2 : decode cX2_road 2 = .ok (.sipush 5000, 3) := by decide +kernel
theorem dX2_road_5 : decode cX2_road 5 = .ok (.invokestatic 35, 3) := by decide +kernel
theorem dX2_road_8 : decode cX2_road 8 = .ok (.ifCond .eq 14, 3) := by decide +kernel
theorem dX2_road_11 : decode cX2_road 11 = .ok (.aload_n 0, 1) := by decide +kernel
theorem dX2_road_12 : decode cX2_road 12 = .ok (.getfield 19, 3) := by decide +kernel
theorem dX2_road_15 : decode cX2_road 15 = .ok (.iload_n 1, 1) := by decide +kernel
theorem dX2_road_16 : decode cX2_road 16 = .ok (.invokevirtual 100, 3) := by decide +kernel
theorem dX2_road_19 : decode cX2_road 19 = .ok (.goto 4, 3) := by decide +kernel
theorem dX2_road_22 : decode cX2_road 22 = .ok (.iconst (-1), 1) := by decide +kernel
theorem dX2_road_23 : decode cX2_road 23 = .ok (.ireturn, 1) := by decide +kernel
set_option maxRecDepth 20000 in
theorem ggX2_dim_X2_isHour : GoodIn wsX2_dim wsX2_isHour := goodIn_r _ [5, 6, 7, 4, 8] (by decide +kernel) (by decide +kernel)
set_option maxRecDepth 20000 in
theorem gX2_dim_X2_isHour : GoodIn wsX2_dim (va_wsS RX2 103 yX2_isHour wsX2_isHour) := goodIn_app (goodIn_of _ (by decide +kernel)) ggX2_dim_X2_isHour
set_option maxRecDepth 20000 in
theorem ggX2_dim_X2_isWithin : GoodIn wsX2_dim wsX2_isWithin := goodIn_r _ [8] (by decide +kernel) (by decide +kernel)
set_option maxRecDepth 20000 in
theorem gX2_dim_X2_isWithin : GoodIn wsX2_dim (va_wsS RX2 35 yX2_isWithin wsX2_isWithin) := goodIn_app (goodIn_of _ (by decide +kernel)) ggX2_dim_X2_isWithin
set_option maxRecDepth 20000 in
theorem ggX2_dim_X0_changePercent : GoodIn wsX2_dim wsX0_changePercent := goodIn_r _ [13, 14, 17, 18, 19, 20] (by decide +kernel) (by decide +kernel)
set_option maxRecDepth 20000 in
theorem gX2_dim_X0_changePercent : GoodIn wsX2_dim (wsV RX2 106 RX0 yX0_changePercent wsX0_changePercent) := goodIn_app (goodIn_of _ (by decide +kernel)) ggX2_dim_X0_changePercent
theorem dX2_dim_0 : decode cX2_dim 0 = .ok (.iload_n 1, 1) := by decide +kernel
theorem dX2_dim_1 : decode cX2_dim 1 = .ok (.invokestatic 103, 3) := by decide +kernel
theorem dX2_dim_4 : decode cX2_dim 4 = .ok (.ifCond .eq 13, 3) := by decide +kernel
theorem dX2_dim_7 : decode cX2_dim 7 = .ok (.iload_n 2, 1) := by decide +kernel
theorem dX2_dim_8 : decode cX2_dim 8 = .ok (.iconst 0, 1) := by decide +kernel
theorem dX2_dim_9 : decode cX2_dim 9 = .ok (.bipush 100, 2) := by decide +kernel
theorem dX2_dim_11 : decode cX2_dim 11 = .ok (.invokestatic 35, 3) := by decide +kernel
theorem dX2_dim_14 : decode cX2_dim 14 = .ok (.ifCond .ne 5, 3) := by decide +kernel
theorem dX2_dim_17 : decode cX2_dim 17 = .ok (.iconst (-1), 1) := by decide +kernel
theorem dX2_dim_18 : decode cX2_dim 18 = .ok (.ireturn, 1) := by decide +kernel
theorem dX2_dim_19 : decode cX2_dim 19 = .ok (.aload_n 0, 1) := by decide +kernel
theorem dX2_dim_20 : decode cX2_dim 20 = .ok (.getfield 19, 3) := by decide +kernel
theorem dX2_dim_23 : decode cX2_dim 23 = .ok (.iload_n 1, 1) := by decide +kernel
theorem dX2_dim_24 : decode cX2_dim 24 = .ok (.iload_n 2, 1) := by decide +kernel
theorem dX2_dim_25 : decode cX2_dim 25 = .ok (.invokevirtual 106, 3) := by decide +kernel
theorem dX2_dim_28 : decode cX2_dim 28 = .ok (.ireturn, 1) := by decide +kernel
set_option maxRecDepth 20000 in
theorem ggX2_at_X0_roadLength : GoodIn wsX2_at wsX0_roadLength := goodIn_r _ [6, 7, 47, 48, 49, 50] (by decide +kernel) (by decide +kernel)
set_option maxRecDepth 20000 in
theorem gX2_at_X0_roadLength : GoodIn wsX2_at (wsV RX2 109 RX0 yX0_roadLength wsX0_roadLength) := goodIn_app (goodIn_of _ (by decide +kernel)) ggX2_at_X0_roadLength
set_option maxRecDepth 20000 in
theorem ggX2_at_X2_isWithin : GoodIn wsX2_at wsX2_isWithin := goodIn_r _ [11] (by decide +kernel) (by decide +kernel)
set_option maxRecDepth 20000 in
theorem gX2_at_X2_isWithin : GoodIn wsX2_at (va_wsS RX2 35 yX2_isWithin wsX2_isWithin) := goodIn_app (goodIn_of _ (by decide +kernel)) ggX2_at_X2_isWithin
set_option maxRecDepth 20000 in
theorem ggX2_at_X2_isSpacing : GoodIn wsX2_at wsX2_isSpacing := goodIn_r _ [14, 8, 9, 10, 11] (by decide +kernel) (by decide +kernel)
set_option maxRecDepth 20000 in
theorem gX2_at_X2_isSpacing : GoodIn wsX2_at (va_wsS RX2 113 yX2_isSpacing wsX2_isSpacing) := goodIn_app (goodIn_of _ (by decide +kernel)) ggX2_at_X2_isSpacing
set_option maxRecDepth 20000 in
theorem ggX2_at_X2_isHour : GoodIn wsX2_at wsX2_isHour := goodIn_r _ [17, 8, 9, 10, 11] (by decide +kernel) (by decide +kernel)
set_option maxRecDepth 20000 in
theorem gX2_at_X2_isHour : GoodIn wsX2_at (va_wsS RX2 103 yX2_isHour wsX2_isHour) := goodIn_app (goodIn_of _ (by decide +kernel)) ggX2_at_X2_isHour
set_option maxRecDepth 20000 in
theorem ggX2_at_X0_dimmedLight : GoodIn wsX2_at wsX0_dimmedLight := goodIn_r _ [21, 22, 23, 24, 25, 5, 26, 7, 27, 28, 29, 30, 31, 32, 33, 34, 35, 36, 37, 38, 39, 40, 41, 42, 43, 44, 47, 48, 49, 50] (by decide +kernel) (by decide +kernel)
set_option maxRecDepth 20000 in
theorem gX2_at_X0_dimmedLight : GoodIn wsX2_at (wsV RX2 116 RX0 yX0_dimmedLight wsX0_dimmedLight) := goodIn_app (goodIn_of _ (by decide +kernel)) ggX2_at_X0_dimmedLight
theorem dX2_at_0 : decode cX2_at 0 = .ok (.iload_n 1, 1) := by decide +kernel
theorem dX2_at_1 : decode cX2_at 1 = .ok (.iconst 0, 1) := by decide +kernel
theorem dX2_at_2 : decode cX2_at 2 = .ok (.aload_n 0, 1) := by decide +kernel
theorem dX2_at_3 : decode cX2_at 3 = .ok (.getfield 19, 3) := by decide +kernel
theorem dX2_at_6 : decode cX2_at 6 = .ok (.invokevirtual 109, 3) := by decide +kernel
theorem dX2_at_9 : decode cX2_at 9 = .ok (.invokestatic 35, 3) := by decide +kernel
theorem dX2_at_12 : decode cX2_at 12 = .ok (.ifCond .eq 17, 3) := by decide +kernel
theorem dX2_at_15 : decode cX2_at 15 = .ok (.iload_n 2, 1) := by decide +kernel
theorem dX2_at_16 : decode cX2_at 16 = .ok (.invokestatic 113, 3) := by decide +kernel
theorem dX2_at_19 : decode cX2_at 19 = .ok (.ifCond .eq 10, 3) := by decide +kernel
theorem dX2_at_22 : decode cX2_at 22 = .ok (.iload_n 3, 1) := by decide +kernel
theorem dX2_at_23 : decode cX2_at 23 = .ok (.invokestatic 103, 3) := by decide +kernel
theorem dX2_at_26 : decode cX2_at 26 = .ok (.ifCond .ne 5, 3) := by decide +kernel
theorem dX2_at_29 : decode cX2_at 29 = .ok (.iconst (-1), 1) := by decide +kernel
theorem dX2_at_30 : decode cX2_at 30 = .ok (.ireturn, 1) := by decide +kernel
theorem dX2_at_31 : decode cX2_at 31 = .ok (.aload_n 0, 1) := by decide +kernel
theorem dX2_at_32 : decode cX2_at 32 = .ok (.getfield 19, 3) := by decide +kernel
theorem dX2_at_35 : decode cX2_at 35 = .ok (.iload_n 1, 1) := by decide +kernel
theorem dX2_at_36 : decode cX2_at 36 = .ok (.iload_n 2, 1) := by decide +kernel
theorem dX2_at_37 : decode cX2_at 37 = .ok (.iload_n 3, 1) := by decide +kernel
theorem dX2_at_38 : decode cX2_at 38 = .ok (.invokevirtual 116, 3) := by decide +kernel
theorem dX2_at_41 : decode cX2_at 41 = .ok (.ireturn, 1) := by decide +kernel
set_option maxRecDepth 20000 in
theorem ggX2_row_X2_isSpacing : GoodIn wsX2_row wsX2_isSpacing := goodIn_r _ [5, 6, 7, 4, 8] (by decide +kernel) (by decide +kernel)
set_option maxRecDepth 20000 in
theorem gX2_row_X2_isSpacing : GoodIn wsX2_row (va_wsS RX2 113 yX2_isSpacing wsX2_isSpacing) := goodIn_app (goodIn_of _ (by decide +kernel)) ggX2_row_X2_isSpacing
set_option maxRecDepth 20000 in
theorem ggX2_row_X0_leastLight : GoodIn wsX2_row wsX0_leastLight := goodIn_r _ [13, 14, 15, 16, 12, 17, 18, 19, 20, 21, 22, 23, 24, 25, 26, 27, 28, 29, 30, 31, 32, 33, 34, 35, 36, 37, 38, 39, 40, 41, 42, 43, 44, 45, 46, 73, 74, 75, 76] (by decide +kernel) (by decide +kernel)
set_option maxRecDepth 20000 in
theorem gX2_row_X0_leastLight : GoodIn wsX2_row (wsV RX2 119 RX0 yX0_leastLight wsX0_leastLight) := goodIn_app (goodIn_of _ (by decide +kernel)) ggX2_row_X0_leastLight
set_option maxRecDepth 20000 in
theorem ggX2_row_X0_meanLight : GoodIn wsX2_row wsX0_meanLight := goodIn_r _ [50, 14, 15, 16, 12, 17, 18, 19, 20, 21, 22, 23, 24, 25, 26, 27, 28, 29, 30, 31, 32, 33, 34, 35, 36, 37, 38, 39, 40, 41, 42, 51, 52, 53, 54, 55, 56, 57, 73, 74, 75, 76] (by decide +kernel) (by decide +kernel)
set_option maxRecDepth 20000 in
theorem gX2_row_X0_meanLight : GoodIn wsX2_row (wsV RX2 122 RX0 yX0_meanLight wsX0_meanLight) := goodIn_app (goodIn_of _ (by decide +kernel)) ggX2_row_X0_meanLight
set_option maxRecDepth 20000 in
theorem ggX2_row_X0_evenness : GoodIn wsX2_row wsX0_evenness := goodIn_r _ [61, 14, 15, 16, 12, 17, 18, 19, 20, 21, 22, 23, 24, 25, 26, 27, 28, 29, 30, 31, 32, 33, 34, 35, 36, 37, 38, 39, 40, 41, 42, 62, 63, 64, 65, 66, 51, 52, 53, 54, 55, 56, 57, 43, 44, 45, 46, 73, 74, 75, 76] (by decide +kernel) (by decide +kernel)
set_option maxRecDepth 20000 in
theorem gX2_row_X0_evenness : GoodIn wsX2_row (wsV RX2 125 RX0 yX0_evenness wsX0_evenness) := goodIn_app (goodIn_of _ (by decide +kernel)) ggX2_row_X0_evenness
set_option maxRecDepth 20000 in
theorem ggX2_row_X0_poles : GoodIn wsX2_row wsX0_poles := goodIn_r _ [70, 23, 73, 74, 75, 76] (by decide +kernel) (by decide +kernel)
set_option maxRecDepth 20000 in
theorem gX2_row_X0_poles : GoodIn wsX2_row (wsV RX2 128 RX0 yX0_poles wsX0_poles) := goodIn_app (goodIn_of _ (by decide +kernel)) ggX2_row_X0_poles
theorem dX2_row_0 : decode cX2_row 0 = .ok (.iload_n 1, 1) := by decide +kernel
theorem dX2_row_1 : decode cX2_row 1 = .ok (.invokestatic 113, 3) := by decide +kernel
theorem dX2_row_4 : decode cX2_row 4 = .ok (.ifCond .ne 5, 3) := by decide +kernel
theorem dX2_row_7 : decode cX2_row 7 = .ok (.iconst (-1), 1) := by decide +kernel
theorem dX2_row_8 : decode cX2_row 8 = .ok (.ireturn, 1) := by decide +kernel
theorem dX2_row_9 : decode cX2_row 9 = .ok (.iload_n 2, 1) := by decide +kernel
theorem dX2_row_10 : decode cX2_row 10 = .ok (.tableswitch 66 0 3 #[30, 39, 48, 57], 30) := by decide +kernel
theorem dX2_row_40 : decode cX2_row 40 = .ok (.aload_n 0, 1) := by decide +kernel
theorem dX2_row_41 : decode cX2_row 41 = .ok (.getfield 19, 3) := by decide +kernel
theorem dX2_row_44 : decode cX2_row 44 = .ok (.iload_n 1, 1) := by decide +kernel
theorem dX2_row_45 : decode cX2_row 45 = .ok (.invokevirtual 119, 3) := by decide +kernel
theorem dX2_row_48 : decode cX2_row 48 = .ok (.ireturn, 1) := by decide +kernel
theorem dX2_row_49 : decode cX2_row 49 = .ok (.aload_n 0, 1) := by decide +kernel
theorem dX2_row_50 : decode cX2_row 50 = .ok (.getfield 19, 3) := by decide +kernel
theorem dX2_row_53 : decode cX2_row 53 = .ok (.iload_n 1, 1) := by decide +kernel
theorem dX2_row_54 : decode cX2_row 54 = .ok (.invokevirtual 122, 3) := by decide +kernel
theorem dX2_row_57 : decode cX2_row 57 = .ok (.ireturn, 1) := by decide +kernel
theorem dX2_row_58 : decode cX2_row 58 = .ok (.aload_n 0, 1) := by decide +kernel
theorem dX2_row_59 : decode cX2_row 59 = .ok (.getfield 19, 3) := by decide +kernel
theorem dX2_row_62 : decode cX2_row 62 = .ok (.iload_n 1, 1) := by decide +kernel
theorem dX2_row_63 : decode cX2_row 63 = .ok (.invokevirtual 125, 3) := by decide +kernel
theorem dX2_row_66 : decode cX2_row 66 = .ok (.ireturn, 1) := by decide +kernel
theorem dX2_row_67 : decode cX2_row 67 = .ok (.aload_n 0, 1) := by decide +kernel
theorem dX2_row_68 : decode cX2_row 68 = .ok (.getfield 19, 3) := by decide +kernel
theorem dX2_row_71 : decode cX2_row 71 = .ok (.iload_n 1, 1) := by decide +kernel
theorem dX2_row_72 : decode cX2_row 72 = .ok (.invokevirtual 128, 3) := by decide +kernel
theorem dX2_row_75 : decode cX2_row 75 = .ok (.ireturn, 1) := by decide +kernel
theorem dX2_row_76 : decode cX2_row 76 = .ok (.iconst (-1), 1) := by decide +kernel
theorem dX2_row_77 : decode cX2_row 77 = .ok (.ireturn, 1) := by decide +kernel
set_option maxRecDepth 20000 in
theorem ggX2_spacing_X0_widestGoodSpacing : GoodIn wsX2_spacing wsX0_widestGoodSpacing := goodIn_r _ [6, 7, 8, 9, 5, 10, 11, 12, 13, 14, 15, 16, 17, 18, 19, 20, 21, 22, 23, 24, 25, 26, 27, 28, 29, 30, 31, 32, 33, 34, 35, 36, 37, 38, 39, 40, 41, 42, 43, 44, 45, 46, 47, 48, 49, 50, 51, 54, 55, 56, 57] (by decide +kernel) (by decide +kernel)
set_option maxRecDepth 20000 in
theorem gX2_spacing_X0_widestGoodSpacing : GoodIn wsX2_spacing (wsV RX2 131 RX0 yX0_widestGoodSpacing wsX0_widestGoodSpacing) := goodIn_app (goodIn_of _ (by decide +kernel)) ggX2_spacing_X0_widestGoodSpacing
theorem dX2_spacing_0 : decode cX2_spacing 0 = .ok (.aload_n 0, 1) := by decide +kernel
theorem dX2_spacing_1 : decode cX2_spacing 1 = .ok (.getfield 19, 3) := by decide +kernel
theorem dX2_spacing_4 : decode cX2_spacing 4 = .ok (.iload_n 1, 1) := by decide +kernel
theorem dX2_spacing_5 : decode cX2_spacing 5 = .ok (.iload_n 2, 1) := by decide +kernel
theorem dX2_spacing_6 : decode cX2_spacing 6 = .ok (.invokevirtual 131, 3) := by decide +kernel
theorem dX2_spacing_9 : decode cX2_spacing 9 = .ok (.ireturn, 1) := by decide +kernel
set_option maxRecDepth 20000 in
theorem ggX2_dark_X2_isSpacing : GoodIn wsX2_dark wsX2_isSpacing := goodIn_r _ [5, 6, 7, 4, 8] (by decide +kernel) (by decide +kernel)
set_option maxRecDepth 20000 in
theorem gX2_dark_X2_isSpacing : GoodIn wsX2_dark (va_wsS RX2 113 yX2_isSpacing wsX2_isSpacing) := goodIn_app (goodIn_of _ (by decide +kernel)) ggX2_dark_X2_isSpacing
set_option maxRecDepth 20000 in
theorem ggX2_dark_X0_hoursBelow : GoodIn wsX2_dark wsX0_hoursBelow := goodIn_r _ [13, 14, 15, 16, 17, 12, 18, 19, 20, 21, 22, 23, 24, 25, 26, 27, 28, 29, 30, 31, 32, 33, 34, 35, 36, 37, 38, 39, 40, 41, 42, 43, 44, 45, 46, 47, 48, 49, 50, 53, 54, 55, 56] (by decide +kernel) (by decide +kernel)
set_option maxRecDepth 20000 in
theorem gX2_dark_X0_hoursBelow : GoodIn wsX2_dark (wsV RX2 134 RX0 yX0_hoursBelow wsX0_hoursBelow) := goodIn_app (goodIn_of _ (by decide +kernel)) ggX2_dark_X0_hoursBelow
theorem dX2_dark_0 : decode cX2_dark 0 = .ok (.iload_n 1, 1) := by decide +kernel
theorem dX2_dark_1 : decode cX2_dark 1 = .ok (.invokestatic 113, 3) := by decide +kernel
theorem dX2_dark_4 : decode cX2_dark 4 = .ok (.ifCond .eq 15, 3) := by decide +kernel
theorem dX2_dark_7 : decode cX2_dark 7 = .ok (.aload_n 0, 1) := by decide +kernel
theorem dX2_dark_8 : decode cX2_dark 8 = .ok (.getfield 19, 3) := by decide +kernel
theorem dX2_dark_11 : decode cX2_dark 11 = .ok (.iload_n 1, 1) := by decide +kernel
theorem dX2_dark_12 : decode cX2_dark 12 = .ok (.iload_n 2, 1) := by decide +kernel
theorem dX2_dark_13 : decode cX2_dark 13 = .ok (.invokevirtual 134, 3) := by decide +kernel
theorem dX2_dark_16 : decode cX2_dark 16 = .ok (.goto 4, 3) := by decide +kernel
theorem dX2_dark_19 : decode cX2_dark 19 = .ok (.iconst (-1), 1) := by decide +kernel
theorem dX2_dark_20 : decode cX2_dark 20 = .ok (.ireturn, 1) := by decide +kernel
set_option maxRecDepth 20000 in
theorem ggX2_drop_X2_isSpacing : GoodIn wsX2_drop wsX2_isSpacing := goodIn_r _ [5, 6, 7, 4, 8] (by decide +kernel) (by decide +kernel)
set_option maxRecDepth 20000 in
theorem gX2_drop_X2_isSpacing : GoodIn wsX2_drop (va_wsS RX2 113 yX2_isSpacing wsX2_isSpacing) := goodIn_app (goodIn_of _ (by decide +kernel)) ggX2_drop_X2_isSpacing
set_option maxRecDepth 20000 in
theorem ggX2_drop_X2_isWire : GoodIn wsX2_drop wsX2_isWire := goodIn_r _ [11, 6, 7, 4, 8] (by decide +kernel) (by decide +kernel)
set_option maxRecDepth 20000 in
theorem gX2_drop_X2_isWire : GoodIn wsX2_drop (va_wsS RX2 137 yX2_isWire wsX2_isWire) := goodIn_app (goodIn_of _ (by decide +kernel)) ggX2_drop_X2_isWire
set_option maxRecDepth 20000 in
theorem ggX2_drop_X0_millivolts : GoodIn wsX2_drop wsX0_millivolts := goodIn_r _ [16, 17, 18, 19, 20, 21, 15, 22, 23, 26, 27, 28, 29] (by decide +kernel) (by decide +kernel)
set_option maxRecDepth 20000 in
theorem gX2_drop_X0_millivolts : GoodIn wsX2_drop (wsV RX2 140 RX0 yX0_millivolts wsX0_millivolts) := goodIn_app (goodIn_of _ (by decide +kernel)) ggX2_drop_X0_millivolts
theorem dX2_drop_0 : decode cX2_drop 0 = .ok (.iload_n 1, 1) := by decide +kernel
theorem dX2_drop_1 : decode cX2_drop 1 = .ok (.invokestatic 113, 3) := by decide +kernel
theorem dX2_drop_4 : decode cX2_drop 4 = .ok (.ifCond .eq 11, 3) := by decide +kernel
theorem dX2_drop_7 : decode cX2_drop 7 = .ok (.iload_n 2, 1) := by decide +kernel
theorem dX2_drop_8 : decode cX2_drop 8 = .ok (.iload_n 3, 1) := by decide +kernel
theorem dX2_drop_9 : decode cX2_drop 9 = .ok (.invokestatic 137, 3) := by decide +kernel
theorem dX2_drop_12 : decode cX2_drop 12 = .ok (.ifCond .ne 5, 3) := by decide +kernel
theorem dX2_drop_15 : decode cX2_drop 15 = .ok (.iconst (-1), 1) := by decide +kernel
theorem dX2_drop_16 : decode cX2_drop 16 = .ok (.ireturn, 1) := by decide +kernel
theorem dX2_drop_17 : decode cX2_drop 17 = .ok (.aload_n 0, 1) := by decide +kernel
theorem dX2_drop_18 : decode cX2_drop 18 = .ok (.getfield 19, 3) := by decide +kernel
theorem dX2_drop_21 : decode cX2_drop 21 = .ok (.iload_n 1, 1) := by decide +kernel
theorem dX2_drop_22 : decode cX2_drop 22 = .ok (.iload_n 2, 1) := by decide +kernel
theorem dX2_drop_23 : decode cX2_drop 23 = .ok (.iload_n 3, 1) := by decide +kernel
theorem dX2_drop_24 : decode cX2_drop 24 = .ok (.invokevirtual 140, 3) := by decide +kernel
theorem dX2_drop_27 : decode cX2_drop 27 = .ok (.ireturn, 1) := by decide +kernel
set_option maxRecDepth 20000 in
theorem ggX2_wired_X2_isWire : GoodIn wsX2_wired wsX2_isWire := goodIn_r _ [5, 6, 7, 4, 8] (by decide +kernel) (by decide +kernel)
set_option maxRecDepth 20000 in
theorem gX2_wired_X2_isWire : GoodIn wsX2_wired (va_wsS RX2 137 yX2_isWire wsX2_isWire) := goodIn_app (goodIn_of _ (by decide +kernel)) ggX2_wired_X2_isWire
set_option maxRecDepth 20000 in
theorem ggX2_wired_X0_widestWiredSpacing : GoodIn wsX2_wired wsX0_widestWiredSpacing := goodIn_r _ [13, 14, 15, 16, 12, 17, 18, 19, 20, 21, 22, 23, 24, 27, 28, 29, 30] (by decide +kernel) (by decide +kernel)
set_option maxRecDepth 20000 in
theorem gX2_wired_X0_widestWiredSpacing : GoodIn wsX2_wired (wsV RX2 143 RX0 yX0_widestWiredSpacing wsX0_widestWiredSpacing) := goodIn_app (goodIn_of _ (by decide +kernel)) ggX2_wired_X0_widestWiredSpacing
theorem dX2_wired_0 : decode cX2_wired 0 = .ok (.iload_n 1, 1) := by decide +kernel
theorem dX2_wired_1 : decode cX2_wired 1 = .ok (.iload_n 2, 1) := by decide +kernel
theorem dX2_wired_2 : decode cX2_wired 2 = .ok (.invokestatic 137, 3) := by decide +kernel
theorem dX2_wired_5 : decode cX2_wired 5 = .ok (.ifCond .eq 16, 3) := by decide +kernel
theorem dX2_wired_8 : decode cX2_wired 8 = .ok (.aload_n 0, 1) := by decide +kernel
theorem dX2_wired_9 : decode cX2_wired 9 = .ok (.getfield 19, 3) := by decide +kernel
theorem dX2_wired_12 : decode cX2_wired 12 = .ok (.iload_n 1, 1) := by decide +kernel
theorem dX2_wired_13 : decode cX2_wired 13 = .ok (.iload_n 2, 1) := by decide +kernel
theorem dX2_wired_14 : decode cX2_wired 14 = .ok (.iload_n 3, 1) := by decide +kernel
theorem dX2_wired_15 : decode cX2_wired 15 = .ok (.invokevirtual 143, 3) := by decide +kernel
theorem dX2_wired_18 : decode cX2_wired 18 = .ok (.goto 4, 3) := by decide +kernel
theorem dX2_wired_21 : decode cX2_wired 21 = .ok (.iconst (-1), 1) := by decide +kernel
theorem dX2_wired_22 : decode cX2_wired 22 = .ok (.ireturn, 1) := by decide +kernel
set_option maxRecDepth 20000 in
theorem ggX2_count_X1_pieceCount : GoodIn wsX2_count wsX1_pieceCount := goodIn_r _ [7, 8, 37, 38, 39, 40, 41, 42, 43, 44, 45, 46, 47, 48, 49, 50, 51, 52, 53, 54, 55] (by decide +kernel) (by decide +kernel)
set_option maxRecDepth 20000 in
theorem gX2_count_X1_pieceCount : GoodIn wsX2_count (wsV RX2 146 RX1 yX1_pieceCount wsX1_pieceCount) := goodIn_app (goodIn_of _ (by decide +kernel)) ggX2_count_X1_pieceCount
set_option maxRecDepth 20000 in
theorem ggX2_count_X1_houseCount : GoodIn wsX2_count wsX1_houseCount := goodIn_r _ [12, 13, 37, 38, 39, 40, 41, 42, 43, 44, 45, 46, 47, 48, 49, 50, 51, 52, 53, 54, 55] (by decide +kernel) (by decide +kernel)
set_option maxRecDepth 20000 in
theorem gX2_count_X1_houseCount : GoodIn wsX2_count (wsV RX2 149 RX1 yX1_houseCount wsX1_houseCount) := goodIn_app (goodIn_of _ (by decide +kernel)) ggX2_count_X1_houseCount
set_option maxRecDepth 20000 in
theorem ggX2_count_X1_wallCount : GoodIn wsX2_count wsX1_wallCount := goodIn_r _ [17, 18, 37, 38, 39, 40, 41, 42, 43, 44, 45, 46, 47, 48, 49, 50, 51, 52, 53, 54, 55] (by decide +kernel) (by decide +kernel)
set_option maxRecDepth 20000 in
theorem gX2_count_X1_wallCount : GoodIn wsX2_count (wsV RX2 152 RX1 yX1_wallCount wsX1_wallCount) := goodIn_app (goodIn_of _ (by decide +kernel)) ggX2_count_X1_wallCount
set_option maxRecDepth 20000 in
theorem ggX2_count_X1_allPeople : GoodIn wsX2_count wsX1_allPeople := goodIn_r _ [22, 13, 23, 37, 38, 39, 40, 41, 42, 43, 44, 45, 46, 47, 48, 49, 50, 51, 52, 53, 54, 55] (by decide +kernel) (by decide +kernel)
set_option maxRecDepth 20000 in
theorem gX2_count_X1_allPeople : GoodIn wsX2_count (wsV RX2 155 RX1 yX1_allPeople wsX1_allPeople) := goodIn_app (goodIn_of _ (by decide +kernel)) ggX2_count_X1_allPeople
set_option maxRecDepth 20000 in
theorem ggX2_count_X0_litDistances : GoodIn wsX2_count wsX0_litDistances := goodIn_r _ [28, 29, 56, 57, 58, 59] (by decide +kernel) (by decide +kernel)
set_option maxRecDepth 20000 in
theorem gX2_count_X0_litDistances : GoodIn wsX2_count (wsV RX2 158 RX0 yX0_litDistances wsX0_litDistances) := goodIn_app (goodIn_of _ (by decide +kernel)) ggX2_count_X0_litDistances
set_option maxRecDepth 20000 in
theorem ggX2_count_X0_roadLength : GoodIn wsX2_count wsX0_roadLength := goodIn_r _ [33, 34, 56, 57, 58, 59] (by decide +kernel) (by decide +kernel)
set_option maxRecDepth 20000 in
theorem gX2_count_X0_roadLength : GoodIn wsX2_count (wsV RX2 109 RX0 yX0_roadLength wsX0_roadLength) := goodIn_app (goodIn_of _ (by decide +kernel)) ggX2_count_X0_roadLength
theorem dX2_count_0 : decode cX2_count 0 = .ok (.iload_n 1, 1) := by decide +kernel
theorem dX2_count_1 : decode cX2_count 1 = .ok (.tableswitch 87 0 5 #[39, 47, 55, 63, 71, 79], 39) := by decide +kernel
theorem dX2_count_40 : decode cX2_count 40 = .ok (.aload_n 0, 1) := by decide +kernel
theorem dX2_count_41 : decode cX2_count 41 = .ok (.getfield 10, 3) := by decide +kernel
theorem dX2_count_44 : decode cX2_count 44 = .ok (.invokevirtual 146, 3) := by decide +kernel
theorem dX2_count_47 : decode cX2_count 47 = .ok (.ireturn, 1) := by decide +kernel
theorem dX2_count_48 : decode cX2_count 48 = .ok (.aload_n 0, 1) := by decide +kernel
theorem dX2_count_49 : decode cX2_count 49 = .ok (.getfield 10, 3) := by decide +kernel
theorem dX2_count_52 : decode cX2_count 52 = .ok (.invokevirtual 149, 3) := by decide +kernel
theorem dX2_count_55 : decode cX2_count 55 = .ok (.ireturn, 1) := by decide +kernel
theorem dX2_count_56 : decode cX2_count 56 = .ok (.aload_n 0, 1) := by decide +kernel
theorem dX2_count_57 : decode cX2_count 57 = .ok (.getfield 10, 3) := by decide +kernel
theorem dX2_count_60 : decode cX2_count 60 = .ok (.invokevirtual 152, 3) := by decide +kernel
theorem dX2_count_63 : decode cX2_count 63 = .ok (.ireturn, 1) := by decide +kernel
theorem dX2_count_64 : decode cX2_count 64 = .ok (.aload_n 0, 1) := by decide +kernel
theorem dX2_count_65 : decode cX2_count 65 = .ok (.getfield 10, 3) := by decide +kernel
theorem dX2_count_68 : decode cX2_count 68 = .ok (.invokevirtual 155, 3) := by decide +kernel
theorem dX2_count_71 : decode cX2_count 71 = .ok (.ireturn, 1) := by decide +kernel
theorem dX2_count_72 : decode cX2_count 72 = .ok (.aload_n 0, 1) := by decide +kernel
theorem dX2_count_73 : decode cX2_count 73 = .ok (.getfield 19, 3) := by decide +kernel
theorem dX2_count_76 : decode cX2_count 76 = .ok (.invokevirtual 158, 3) := by decide +kernel
theorem dX2_count_79 : decode cX2_count 79 = .ok (.ireturn, 1) := by decide +kernel
theorem dX2_count_80 : decode cX2_count 80 = .ok (.aload_n 0, 1) := by decide +kernel
theorem dX2_count_81 : decode cX2_count 81 = .ok (.getfield 19, 3) := by decide +kernel
theorem dX2_count_84 : decode cX2_count 84 = .ok (.invokevirtual 109, 3) := by decide +kernel
theorem dX2_count_87 : decode cX2_count 87 = .ok (.ireturn, 1) := by decide +kernel
theorem dX2_count_88 : decode cX2_count 88 = .ok (.iconst (-1), 1) := by decide +kernel
theorem dX2_count_89 : decode cX2_count 89 = .ok (.ireturn, 1) := by decide +kernel
theorem dX2_isWithin_0 : decode cX2_isWithin 0 = .ok (.iload_n 0, 1) := by decide +kernel
theorem dX2_isWithin_1 : decode cX2_isWithin 1 = .ok (.iload_n 1, 1) := by decide +kernel
theorem dX2_isWithin_2 : decode cX2_isWithin 2 = .ok (.if_icmp .lt 12, 3) := by decide +kernel
theorem dX2_isWithin_5 : decode cX2_isWithin 5 = .ok (.iload_n 0, 1) := by decide +kernel
theorem dX2_isWithin_6 : decode cX2_isWithin 6 = .ok (.iload_n 2, 1) := by decide +kernel
theorem dX2_isWithin_7 : decode cX2_isWithin 7 = .ok (.if_icmp .gt 7, 3) := by decide +kernel
theorem dX2_isWithin_10 : decode cX2_isWithin 10 = .ok (.iconst 1, 1) := by decide +kernel
theorem dX2_isWithin_11 : decode cX2_isWithin 11 = .ok (.goto 4, 3) := by decide +kernel
theorem dX2_isWithin_14 : decode cX2_isWithin 14 = .ok (.iconst 0, 1) := by decide +kernel
theorem dX2_isWithin_15 : decode cX2_isWithin 15 = .ok (.ireturn, 1) := by decide +kernel
set_option maxRecDepth 20000 in
theorem ggX2_isPoint_X2_isWithin : GoodIn wsX2_isPoint wsX2_isWithin := goodIn_r _ [4] (by decide +kernel) (by decide +kernel)
set_option maxRecDepth 20000 in
theorem gX2_isPoint_X2_isWithin : GoodIn wsX2_isPoint (va_wsS RX2 35 yX2_isWithin wsX2_isWithin) := goodIn_app (goodIn_of _ (by decide +kernel)) ggX2_isPoint_X2_isWithin
theorem dX2_isPoint_0 : decode cX2_isPoint 0 = .ok (.iload_n 0, 1) := by decide +kernel
theorem dX2_isPoint_1 : decode cX2_isPoint 1 = .ok (.sipush (-5000), 3) := by decide +kernel
theorem dX2_isPoint_4 : decode cX2_isPoint 4 = .ok (.sipush 5000, 3) := by decide +kernel
theorem dX2_isPoint_7 : decode cX2_isPoint 7 = .ok (.invokestatic 35, 3) := by decide +kernel
theorem dX2_isPoint_10 : decode cX2_isPoint 10 = .ok (.ifCond .eq 20, 3) := by decide +kernel
theorem dX2_isPoint_13 : decode cX2_isPoint 13 = .ok (.iload_n 1, 1) := by decide +kernel
theorem dX2_isPoint_14 : decode cX2_isPoint 14 = .ok (.sipush (-5000), 3) := by decide +kernel
theorem dX2_isPoint_17 : decode cX2_isPoint 17 = .ok (.sipush 5000, 3) := by decide +kernel
theorem dX2_isPoint_20 : decode cX2_isPoint 20 = .ok (.invokestatic 35, 3) := by decide +kernel
theorem dX2_isPoint_23 : decode cX2_isPoint 23 = .ok (.ifCond .eq 7, 3) := by decide +kernel
theorem dX2_isPoint_26 : decode cX2_isPoint 26 = .ok (.iconst 1, 1) := by decide +kernel
theorem dX2_isPoint_27 : decode cX2_isPoint 27 = .ok (.goto 4, 3) := by decide +kernel
theorem dX2_isPoint_30 : decode cX2_isPoint 30 = .ok (.iconst 0, 1) := by decide +kernel
theorem dX2_isPoint_31 : decode cX2_isPoint 31 = .ok (.ireturn, 1) := by decide +kernel
set_option maxRecDepth 20000 in
theorem ggX2_isLevel_X2_isWithin : GoodIn wsX2_isLevel wsX2_isWithin := goodIn_r _ [4] (by decide +kernel) (by decide +kernel)
set_option maxRecDepth 20000 in
theorem gX2_isLevel_X2_isWithin : GoodIn wsX2_isLevel (va_wsS RX2 35 yX2_isWithin wsX2_isWithin) := goodIn_app (goodIn_of _ (by decide +kernel)) ggX2_isLevel_X2_isWithin
theorem dX2_isLevel_0 : decode cX2_isLevel 0 = .ok (.iload_n 0, 1) := by decide +kernel
theorem dX2_isLevel_1 : decode cX2_isLevel 1 = .ok (.iconst 0, 1) := by decide +kernel
theorem dX2_isLevel_2 : decode cX2_isLevel 2 = .ok (.sipush 1200, 3) := by decide +kernel
theorem dX2_isLevel_5 : decode cX2_isLevel 5 = .ok (.invokestatic 35, 3) := by decide +kernel
theorem dX2_isLevel_8 : decode cX2_isLevel 8 = .ok (.ireturn, 1) := by decide +kernel
set_option maxRecDepth 20000 in
theorem ggX2_isCut_X2_isWithin : GoodIn wsX2_isCut wsX2_isWithin := goodIn_r _ [4] (by decide +kernel) (by decide +kernel)
set_option maxRecDepth 20000 in
theorem gX2_isCut_X2_isWithin : GoodIn wsX2_isCut (va_wsS RX2 35 yX2_isWithin wsX2_isWithin) := goodIn_app (goodIn_of _ (by decide +kernel)) ggX2_isCut_X2_isWithin
theorem dX2_isCut_0 : decode cX2_isCut 0 = .ok (.iload_n 0, 1) := by decide +kernel
theorem dX2_isCut_1 : decode cX2_isCut 1 = .ok (.iconst 0, 1) := by decide +kernel
theorem dX2_isCut_2 : decode cX2_isCut 2 = .ok (.sipush 300, 3) := by decide +kernel
theorem dX2_isCut_5 : decode cX2_isCut 5 = .ok (.invokestatic 35, 3) := by decide +kernel
theorem dX2_isCut_8 : decode cX2_isCut 8 = .ok (.ireturn, 1) := by decide +kernel
set_option maxRecDepth 20000 in
theorem ggX2_isPart_X2_isWithin : GoodIn wsX2_isPart wsX2_isWithin := goodIn_r _ [4] (by decide +kernel) (by decide +kernel)
set_option maxRecDepth 20000 in
theorem gX2_isPart_X2_isWithin : GoodIn wsX2_isPart (va_wsS RX2 35 yX2_isWithin wsX2_isWithin) := goodIn_app (goodIn_of _ (by decide +kernel)) ggX2_isPart_X2_isWithin
theorem dX2_isPart_0 : decode cX2_isPart 0 = .ok (.iload_n 0, 1) := by decide +kernel
theorem dX2_isPart_1 : decode cX2_isPart 1 = .ok (.iconst 0, 1) := by decide +kernel
theorem dX2_isPart_2 : decode cX2_isPart 2 = .ok (.iconst 2, 1) := by decide +kernel
theorem dX2_isPart_3 : decode cX2_isPart 3 = .ok (.invokestatic 35, 3) := by decide +kernel
theorem dX2_isPart_6 : decode cX2_isPart 6 = .ok (.ireturn, 1) := by decide +kernel
set_option maxRecDepth 20000 in
theorem ggX2_isHour_X2_isWithin : GoodIn wsX2_isHour wsX2_isWithin := goodIn_r _ [4] (by decide +kernel) (by decide +kernel)
set_option maxRecDepth 20000 in
theorem gX2_isHour_X2_isWithin : GoodIn wsX2_isHour (va_wsS RX2 35 yX2_isWithin wsX2_isWithin) := goodIn_app (goodIn_of _ (by decide +kernel)) ggX2_isHour_X2_isWithin
theorem dX2_isHour_0 : decode cX2_isHour 0 = .ok (.iload_n 0, 1) := by decide +kernel
theorem dX2_isHour_1 : decode cX2_isHour 1 = .ok (.iconst 0, 1) := by decide +kernel
theorem dX2_isHour_2 : decode cX2_isHour 2 = .ok (.bipush 23, 2) := by decide +kernel
theorem dX2_isHour_4 : decode cX2_isHour 4 = .ok (.invokestatic 35, 3) := by decide +kernel
theorem dX2_isHour_7 : decode cX2_isHour 7 = .ok (.ireturn, 1) := by decide +kernel
set_option maxRecDepth 20000 in
theorem ggX2_isSpacing_X2_isWithin : GoodIn wsX2_isSpacing wsX2_isWithin := goodIn_r _ [4] (by decide +kernel) (by decide +kernel)
set_option maxRecDepth 20000 in
theorem gX2_isSpacing_X2_isWithin : GoodIn wsX2_isSpacing (va_wsS RX2 35 yX2_isWithin wsX2_isWithin) := goodIn_app (goodIn_of _ (by decide +kernel)) ggX2_isSpacing_X2_isWithin
theorem dX2_isSpacing_0 : decode cX2_isSpacing 0 = .ok (.iload_n 0, 1) := by decide +kernel
theorem dX2_isSpacing_1 : decode cX2_isSpacing 1 = .ok (.bipush 10, 2) := by decide +kernel
theorem dX2_isSpacing_3 : decode cX2_isSpacing 3 = .ok (.sipush 600, 3) := by decide +kernel
theorem dX2_isSpacing_6 : decode cX2_isSpacing 6 = .ok (.invokestatic 35, 3) := by decide +kernel
theorem dX2_isSpacing_9 : decode cX2_isSpacing 9 = .ok (.ireturn, 1) := by decide +kernel
set_option maxRecDepth 20000 in
theorem ggX2_isWire_X2_isWithin : GoodIn wsX2_isWire wsX2_isWithin := goodIn_r _ [4] (by decide +kernel) (by decide +kernel)
set_option maxRecDepth 20000 in
theorem gX2_isWire_X2_isWithin : GoodIn wsX2_isWire (va_wsS RX2 35 yX2_isWithin wsX2_isWithin) := goodIn_app (goodIn_of _ (by decide +kernel)) ggX2_isWire_X2_isWithin
theorem dX2_isWire_0 : decode cX2_isWire 0 = .ok (.iload_n 0, 1) := by decide +kernel
theorem dX2_isWire_1 : decode cX2_isWire 1 = .ok (.iconst 0, 1) := by decide +kernel
theorem dX2_isWire_2 : decode cX2_isWire 2 = .ok (.sipush 20000, 3) := by decide +kernel
theorem dX2_isWire_5 : decode cX2_isWire 5 = .ok (.invokestatic 35, 3) := by decide +kernel
theorem dX2_isWire_8 : decode cX2_isWire 8 = .ok (.ifCond .eq 18, 3) := by decide +kernel
theorem dX2_isWire_11 : decode cX2_isWire 11 = .ok (.iload_n 1, 1) := by decide +kernel
theorem dX2_isWire_12 : decode cX2_isWire 12 = .ok (.iconst 0, 1) := by decide +kernel
theorem dX2_isWire_13 : decode cX2_isWire 13 = .ok (.sipush 10000, 3) := by decide +kernel
theorem dX2_isWire_16 : decode cX2_isWire 16 = .ok (.invokestatic 35, 3) := by decide +kernel
theorem dX2_isWire_19 : decode cX2_isWire 19 = .ok (.ifCond .eq 7, 3) := by decide +kernel
theorem dX2_isWire_22 : decode cX2_isWire 22 = .ok (.iconst 1, 1) := by decide +kernel
theorem dX2_isWire_23 : decode cX2_isWire 23 = .ok (.goto 4, 3) := by decide +kernel
theorem dX2_isWire_26 : decode cX2_isWire 26 = .ok (.iconst 0, 1) := by decide +kernel
theorem dX2_isWire_27 : decode cX2_isWire 27 = .ok (.ireturn, 1) := by decide +kernel
