theorem dX3_init_0 : decode cX3_init 0 = .ok (.aload_n 0, 1) := by decide +kernel
theorem dX3_init_1 : decode cX3_init 1 = .ok (.invokespecial 1, 3) := by decide +kernel
theorem dX3_init_4 : decode cX3_init 4 = .ok (.aload_n 0, 1) := by decide +kernel
theorem dX3_init_5 : decode cX3_init 5 = .ok (.bipush 12, 2) := by decide +kernel
theorem dX3_init_7 : decode cX3_init 7 = .ok (.newarray .int, 2) := by decide +kernel
theorem dX3_init_9 : decode cX3_init 9 = .ok (.putfield 7, 3) := by decide +kernel
theorem dX3_init_12 : decode cX3_init 12 = .ok (.aload_n 0, 1) := by decide +kernel
theorem dX3_init_13 : decode cX3_init 13 = .ok (.bipush 12, 2) := by decide +kernel
theorem dX3_init_15 : decode cX3_init 15 = .ok (.newarray .int, 2) := by decide +kernel
theorem dX3_init_17 : decode cX3_init 17 = .ok (.putfield 13, 3) := by decide +kernel
theorem dX3_init_20 : decode cX3_init 20 = .ok (.aload_n 0, 1) := by decide +kernel
theorem dX3_init_21 : decode cX3_init 21 = .ok (.bipush 36, 2) := by decide +kernel
theorem dX3_init_23 : decode cX3_init 23 = .ok (.newarray .int, 2) := by decide +kernel
theorem dX3_init_25 : decode cX3_init 25 = .ok (.putfield 16, 3) := by decide +kernel
theorem dX3_init_28 : decode cX3_init 28 = .ok (.aload_n 0, 1) := by decide +kernel
theorem dX3_init_29 : decode cX3_init 29 = .ok (.bipush 20, 2) := by decide +kernel
theorem dX3_init_31 : decode cX3_init 31 = .ok (.newarray .int, 2) := by decide +kernel
theorem dX3_init_33 : decode cX3_init 33 = .ok (.putfield 19, 3) := by decide +kernel
theorem dX3_init_36 : decode cX3_init 36 = .ok (.aload_n 0, 1) := by decide +kernel
theorem dX3_init_37 : decode cX3_init 37 = .ok (.bipush 20, 2) := by decide +kernel
theorem dX3_init_39 : decode cX3_init 39 = .ok (.newarray .int, 2) := by decide +kernel
theorem dX3_init_41 : decode cX3_init 41 = .ok (.putfield 22, 3) := by decide +kernel
theorem dX3_init_44 : decode cX3_init 44 = .ok (.aload_n 0, 1) := by decide +kernel
theorem dX3_init_45 : decode cX3_init 45 = .ok (.bipush 20, 2) := by decide +kernel
theorem dX3_init_47 : decode cX3_init 47 = .ok (.newarray .int, 2) := by decide +kernel
theorem dX3_init_49 : decode cX3_init 49 = .ok (.putfield 25, 3) := by decide +kernel
theorem dX3_init_52 : decode cX3_init 52 = .ok (.aload_n 0, 1) := by decide +kernel
theorem dX3_init_53 : decode cX3_init 53 = .ok (.bipush 32, 2) := by decide +kernel
theorem dX3_init_55 : decode cX3_init 55 = .ok (.newarray .int, 2) := by decide +kernel
theorem dX3_init_57 : decode cX3_init 57 = .ok (.putfield 28, 3) := by decide +kernel
theorem dX3_init_60 : decode cX3_init 60 = .ok (.aload_n 0, 1) := by decide +kernel
theorem dX3_init_61 : decode cX3_init 61 = .ok (.bipush 8, 2) := by decide +kernel
theorem dX3_init_63 : decode cX3_init 63 = .ok (.newarray .int, 2) := by decide +kernel
theorem dX3_init_65 : decode cX3_init 65 = .ok (.putfield 31, 3) := by decide +kernel
theorem dX3_init_68 : decode cX3_init 68 = .ok (.aload_n 0, 1) := by decide +kernel
theorem dX3_init_69 : decode cX3_init 69 = .ok (.bipush 30, 2) := by decide +kernel
theorem dX3_init_71 : decode cX3_init 71 = .ok (.putfield 34, 3) := by decide +kernel
theorem dX3_init_74 : decode cX3_init 74 = .ok (.aload_n 0, 1) := by decide +kernel
theorem dX3_init_75 : decode cX3_init 75 = .ok (.iconst 3, 1) := by decide +kernel
theorem dX3_init_76 : decode cX3_init 76 = .ok (.newarray .int, 2) := by decide +kernel
theorem dX3_init_78 : decode cX3_init 78 = .ok (.putfield 38, 3) := by decide +kernel
theorem dX3_init_81 : decode cX3_init 81 = .ok (.aload_n 0, 1) := by decide +kernel
theorem dX3_init_82 : decode cX3_init 82 = .ok (.bipush 31, 2) := by decide +kernel
theorem dX3_init_84 : decode cX3_init 84 = .ok (.newarray .int, 2) := by decide +kernel
theorem dX3_init_86 : decode cX3_init 86 = .ok (.putfield 41, 3) := by decide +kernel
theorem dX3_init_89 : decode cX3_init 89 = .ok (.aload_n 0, 1) := by decide +kernel
theorem dX3_init_90 : decode cX3_init 90 = .ok (.bipush 24, 2) := by decide +kernel
theorem dX3_init_92 : decode cX3_init 92 = .ok (.newarray .int, 2) := by decide +kernel
theorem dX3_init_94 : decode cX3_init 94 = .ok (.putfield 44, 3) := by decide +kernel
theorem dX3_init_97 : decode cX3_init 97 = .ok (.aload_n 0, 1) := by decide +kernel
theorem dX3_init_98 : decode cX3_init 98 = .ok (.bipush 20, 2) := by decide +kernel
theorem dX3_init_100 : decode cX3_init 100 = .ok (.newarray .int, 2) := by decide +kernel
theorem dX3_init_102 : decode cX3_init 102 = .ok (.putfield 47, 3) := by decide +kernel
theorem dX3_init_105 : decode cX3_init 105 = .ok (.aload_n 0, 1) := by decide +kernel
theorem dX3_init_106 : decode cX3_init 106 = .ok (.getfield 38, 3) := by decide +kernel
theorem dX3_init_109 : decode cX3_init 109 = .ok (.iconst 1, 1) := by decide +kernel
theorem dX3_init_110 : decode cX3_init 110 = .ok (.bipush 50, 2) := by decide +kernel
theorem dX3_init_112 : decode cX3_init 112 = .ok (.iastore, 1) := by decide +kernel
theorem dX3_init_113 : decode cX3_init 113 = .ok (.aload_n 0, 1) := by decide +kernel
theorem dX3_init_114 : decode cX3_init 114 = .ok (.getfield 38, 3) := by decide +kernel
theorem dX3_init_117 : decode cX3_init 117 = .ok (.iconst 2, 1) := by decide +kernel
theorem dX3_init_118 : decode cX3_init 118 = .ok (.bipush 100, 2) := by decide +kernel
theorem dX3_init_120 : decode cX3_init 120 = .ok (.iastore, 1) := by decide +kernel
theorem dX3_init_121 : decode cX3_init 121 = .ok (.iconst 0, 1) := by decide +kernel
theorem dX3_init_122 : decode cX3_init 122 = .ok (.istore_n 1, 1) := by decide +kernel
theorem dX3_init_123 : decode cX3_init 123 = .ok (.iload_n 1, 1) := by decide +kernel
theorem dX3_init_124 : decode cX3_init 124 = .ok (.bipush 24, 2) := by decide +kernel
theorem dX3_init_126 : decode cX3_init 126 = .ok (.if_icmp .ge 17, 3) := by decide +kernel
theorem dX3_init_129 : decode cX3_init 129 = .ok (.aload_n 0, 1) := by decide +kernel
theorem dX3_init_130 : decode cX3_init 130 = .ok (.getfield 44, 3) := by decide +kernel
theorem dX3_init_133 : decode cX3_init 133 = .ok (.iload_n 1, 1) := by decide +kernel
theorem dX3_init_134 : decode cX3_init 134 = .ok (.bipush 100, 2) := by decide +kernel
theorem dX3_init_136 : decode cX3_init 136 = .ok (.iastore, 1) := by decide +kernel
theorem dX3_init_137 : decode cX3_init 137 = .ok (.iinc 1 1, 3) := by decide +kernel
theorem dX3_init_140 : decode cX3_init 140 = .ok (.goto (-17), 3) := by decide +kernel
theorem dX3_init_143 : decode cX3_init 143 = .ok (.return_, 1) := by decide +kernel
theorem dX3_within_0 : decode cX3_within 0 = .ok (.iload_n 0, 1) := by decide +kernel
theorem dX3_within_1 : decode cX3_within 1 = .ok (.iload_n 1, 1) := by decide +kernel
theorem dX3_within_2 : decode cX3_within 2 = .ok (.if_icmp .lt 12, 3) := by decide +kernel
theorem dX3_within_5 : decode cX3_within 5 = .ok (.iload_n 0, 1) := by decide +kernel
theorem dX3_within_6 : decode cX3_within 6 = .ok (.iload_n 2, 1) := by decide +kernel
theorem dX3_within_7 : decode cX3_within 7 = .ok (.if_icmp .gt 7, 3) := by decide +kernel
theorem dX3_within_10 : decode cX3_within 10 = .ok (.iconst 1, 1) := by decide +kernel
theorem dX3_within_11 : decode cX3_within 11 = .ok (.goto 4, 3) := by decide +kernel
theorem dX3_within_14 : decode cX3_within 14 = .ok (.iconst 0, 1) := by decide +kernel
theorem dX3_within_15 : decode cX3_within 15 = .ok (.ireturn, 1) := by decide +kernel
set_option maxRecDepth 20000 in
theorem ggX3_isPoint_X3_within : GoodIn wsX3_isPoint wsX3_within := goodIn_r _ [4] (by decide +kernel) (by decide +kernel)
set_option maxRecDepth 20000 in
theorem gX3_isPoint_X3_within : GoodIn wsX3_isPoint (va_wsS RX3 50 yX3_within wsX3_within) := goodIn_app (goodIn_of _ (by decide +kernel)) ggX3_isPoint_X3_within
theorem dX3_isPoint_0 : decode cX3_isPoint 0 = .ok (.iload_n 0, 1) := by decide +kernel
theorem dX3_isPoint_1 : decode cX3_isPoint 1 = .ok (.sipush (-5000), 3) := by decide +kernel
theorem dX3_isPoint_4 : decode cX3_isPoint 4 = .ok (.sipush 5000, 3) := by decide +kernel
theorem dX3_isPoint_7 : decode cX3_isPoint 7 = .ok (.invokestatic 50, 3) := by decide +kernel
theorem dX3_isPoint_10 : decode cX3_isPoint 10 = .ok (.ifCond .eq 20, 3) := by decide +kernel
theorem dX3_isPoint_13 : decode cX3_isPoint 13 = .ok (.iload_n 1, 1) := by decide +kernel
theorem dX3_isPoint_14 : decode cX3_isPoint 14 = .ok (.sipush (-5000), 3) := by decide +kernel
theorem dX3_isPoint_17 : decode cX3_isPoint 17 = .ok (.sipush 5000, 3) := by decide +kernel
theorem dX3_isPoint_20 : decode cX3_isPoint 20 = .ok (.invokestatic 50, 3) := by decide +kernel
theorem dX3_isPoint_23 : decode cX3_isPoint 23 = .ok (.ifCond .eq 7, 3) := by decide +kernel
theorem dX3_isPoint_26 : decode cX3_isPoint 26 = .ok (.iconst 1, 1) := by decide +kernel
theorem dX3_isPoint_27 : decode cX3_isPoint 27 = .ok (.goto 4, 3) := by decide +kernel
theorem dX3_isPoint_30 : decode cX3_isPoint 30 = .ok (.iconst 0, 1) := by decide +kernel
theorem dX3_isPoint_31 : decode cX3_isPoint 31 = .ok (.ireturn, 1) := by decide +kernel
set_option maxRecDepth 20000 in
theorem ggX3_piece_X3_isPoint : GoodIn wsX3_piece wsX3_isPoint := goodIn_r _ [8, 9, 10, 7, 11] (by decide +kernel) (by decide +kernel)
set_option maxRecDepth 20000 in
theorem gX3_piece_X3_isPoint : GoodIn wsX3_piece (va_wsS RX3 54 yX3_isPoint wsX3_isPoint) := goodIn_app (goodIn_of _ (by decide +kernel)) ggX3_piece_X3_isPoint
set_option maxRecDepth 20000 in
theorem ggX3_piece_X3_within : GoodIn wsX3_piece wsX3_within := goodIn_r _ [11] (by decide +kernel) (by decide +kernel)
set_option maxRecDepth 20000 in
theorem gX3_piece_X3_within : GoodIn wsX3_piece (va_wsS RX3 50 yX3_within wsX3_within) := goodIn_app (goodIn_of _ (by decide +kernel)) ggX3_piece_X3_within
theorem dX3_piece_0 : decode cX3_piece 0 = .ok (.iload_n 1, 1) := by decide +kernel
theorem dX3_piece_1 : decode cX3_piece 1 = .ok (.iload_n 2, 1) := by decide +kernel
theorem dX3_piece_2 : decode cX3_piece 2 = .ok (.invokestatic 54, 3) := by decide +kernel
theorem dX3_piece_5 : decode cX3_piece 5 = .ok (.ifCond .eq 42, 3) := by decide +kernel
theorem dX3_piece_8 : decode cX3_piece 8 = .ok (.iload_n 3, 1) := by decide +kernel
theorem dX3_piece_9 : decode cX3_piece 9 = .ok (.iconst 0, 1) := by decide +kernel
theorem dX3_piece_10 : decode cX3_piece 10 = .ok (.sipush 1200, 3) := by decide +kernel
theorem dX3_piece_13 : decode cX3_piece 13 = .ok (.invokestatic 50, 3) := by decide +kernel
theorem dX3_piece_16 : decode cX3_piece 16 = .ok (.ifCond .eq 31, 3) := by decide +kernel
theorem dX3_piece_19 : decode cX3_piece 19 = .ok (.iload 4, 2) := by decide +kernel
theorem dX3_piece_21 : decode cX3_piece 21 = .ok (.iconst 0, 1) := by decide +kernel
theorem dX3_piece_22 : decode cX3_piece 22 = .ok (.sipush 1200, 3) := by decide +kernel
theorem dX3_piece_25 : decode cX3_piece 25 = .ok (.invokestatic 50, 3) := by decide +kernel
theorem dX3_piece_28 : decode cX3_piece 28 = .ok (.ifCond .eq 19, 3) := by decide +kernel
theorem dX3_piece_31 : decode cX3_piece 31 = .ok (.iload 5, 2) := by decide +kernel
theorem dX3_piece_33 : decode cX3_piece 33 = .ok (.iconst 0, 1) := by decide +kernel
theorem dX3_piece_34 : decode cX3_piece 34 = .ok (.sipush 1200, 3) := by decide +kernel
theorem dX3_piece_37 : decode cX3_piece 37 = .ok (.invokestatic 50, 3) := by decide +kernel
theorem dX3_piece_40 : decode cX3_piece 40 = .ok (.ifCond .eq 7, 3) := by decide +kernel
theorem dX3_piece_43 : decode cX3_piece 43 = .ok (.iconst 1, 1) := by decide +kernel
theorem dX3_piece_44 : decode cX3_piece 44 = .ok (.goto 4, 3) := by decide +kernel
theorem dX3_piece_47 : decode cX3_piece 47 = .ok (.iconst 0, 1) := by decide +kernel
theorem dX3_piece_48 : decode cX3_piece 48 = .ok (.istore 6, 2) := by decide +kernel
theorem dX3_piece_50 : decode cX3_piece 50 = .ok (.iload 6, 2) := by decide +kernel
theorem dX3_piece_52 : decode cX3_piece 52 = .ok (.ifCond .eq 12, 3) := by decide +kernel
theorem dX3_piece_55 : decode cX3_piece 55 = .ok (.aload_n 0, 1) := by decide +kernel
theorem dX3_piece_56 : decode cX3_piece 56 = .ok (.getfield 58, 3) := by decide +kernel
theorem dX3_piece_59 : decode cX3_piece 59 = .ok (.bipush 12, 2) := by decide +kernel
theorem dX3_piece_61 : decode cX3_piece 61 = .ok (.if_icmp .ne 5, 3) := by decide +kernel
theorem dX3_piece_64 : decode cX3_piece 64 = .ok (.iconst (-1), 1) := by decide +kernel
theorem dX3_piece_65 : decode cX3_piece 65 = .ok (.ireturn, 1) := by decide +kernel
theorem dX3_piece_66 : decode cX3_piece 66 = .ok (.aload_n 0, 1) := by decide +kernel
theorem dX3_piece_67 : decode cX3_piece 67 = .ok (.getfield 7, 3) := by decide +kernel
theorem dX3_piece_70 : decode cX3_piece 70 = .ok (.aload_n 0, 1) := by decide +kernel
theorem dX3_piece_71 : decode cX3_piece 71 = .ok (.getfield 58, 3) := by decide +kernel
theorem dX3_piece_74 : decode cX3_piece 74 = .ok (.iload_n 1, 1) := by decide +kernel
theorem dX3_piece_75 : decode cX3_piece 75 = .ok (.iastore, 1) := by decide +kernel
theorem dX3_piece_76 : decode cX3_piece 76 = .ok (.aload_n 0, 1) := by decide +kernel
theorem dX3_piece_77 : decode cX3_piece 77 = .ok (.getfield 13, 3) := by decide +kernel
theorem dX3_piece_80 : decode cX3_piece 80 = .ok (.aload_n 0, 1) := by decide +kernel
theorem dX3_piece_81 : decode cX3_piece 81 = .ok (.getfield 58, 3) := by decide +kernel
theorem dX3_piece_84 : decode cX3_piece 84 = .ok (.iload_n 2, 1) := by decide +kernel
theorem dX3_piece_85 : decode cX3_piece 85 = .ok (.iastore, 1) := by decide +kernel
theorem dX3_piece_86 : decode cX3_piece 86 = .ok (.aload_n 0, 1) := by decide +kernel
theorem dX3_piece_87 : decode cX3_piece 87 = .ok (.getfield 16, 3) := by decide +kernel
theorem dX3_piece_90 : decode cX3_piece 90 = .ok (.iconst 3, 1) := by decide +kernel
theorem dX3_piece_91 : decode cX3_piece 91 = .ok (.aload_n 0, 1) := by decide +kernel
theorem dX3_piece_92 : decode cX3_piece 92 = .ok (.getfield 58, 3) := by decide +kernel
theorem dX3_piece_95 : decode cX3_piece 95 = .ok (.imul, 1) := by decide +kernel
theorem dX3_piece_96 : decode cX3_piece 96 = .ok (.iload_n 3, 1) := by decide +kernel
theorem dX3_piece_97 : decode cX3_piece 97 = .ok (.iastore, 1) := by decide +kernel
theorem dX3_piece_98 : decode cX3_piece 98 = .ok (.aload_n 0, 1) := by decide +kernel
theorem dX3_piece_99 : decode cX3_piece 99 = .ok (.getfield 16, 3) := by decide +kernel
theorem dX3_piece_102 : decode cX3_piece 102 = .ok (.iconst 3, 1) := by decide +kernel
theorem dX3_piece_103 : decode cX3_piece 103 = .ok (.aload_n 0, 1) := by decide +kernel
theorem dX3_piece_104 : decode cX3_piece 104 = .ok (.getfield 58, 3) := by decide +kernel
theorem dX3_piece_107 : decode cX3_piece 107 = .ok (.imul, 1) := by decide +kernel
theorem dX3_piece_108 : decode cX3_piece 108 = .ok (.iconst 1, 1) := by decide +kernel
theorem dX3_piece_109 : decode cX3_piece 109 = .ok (.iadd, 1) := by decide +kernel
theorem dX3_piece_110 : decode cX3_piece 110 = .ok (.iload 4, 2) := by decide +kernel
theorem dX3_piece_112 : decode cX3_piece 112 = .ok (.iastore, 1) := by decide +kernel
theorem dX3_piece_113 : decode cX3_piece 113 = .ok (.aload_n 0, 1) := by decide +kernel
theorem dX3_piece_114 : decode cX3_piece 114 = .ok (.getfield 16, 3) := by decide +kernel
theorem dX3_piece_117 : decode cX3_piece 117 = .ok (.iconst 3, 1) := by decide +kernel
theorem dX3_piece_118 : decode cX3_piece 118 = .ok (.aload_n 0, 1) := by decide +kernel
theorem dX3_piece_119 : decode cX3_piece 119 = .ok (.getfield 58, 3) := by decide +kernel
theorem dX3_piece_122 : decode cX3_piece 122 = .ok (.imul, 1) := by decide +kernel
theorem dX3_piece_123 : decode cX3_piece 123 = .ok (.iconst 2, 1) := by decide +kernel
theorem dX3_piece_124 : decode cX3_piece 124 = .ok (.iadd, 1) := by decide +kernel
theorem dX3_piece_125 : decode cX3_piece 125 = .ok (.iload 5, 2) := by decide +kernel
theorem dX3_piece_127 : decode cX3_piece 127 = .ok (.iastore, 1) := by decide +kernel
theorem dX3_piece_128 : decode cX3_piece 128 = .ok (.aload_n 0, 1) := by decide +kernel
theorem dX3_piece_129 : decode cX3_piece 129 = .ok (.dup, 1) := by decide +kernel
theorem dX3_piece_130 : decode cX3_piece 130 = .ok (.getfield 58, 3) := by decide +kernel
theorem dX3_piece_133 : decode cX3_piece 133 = .ok (.iconst 1, 1) := by decide +kernel
theorem dX3_piece_134 : decode cX3_piece 134 = .ok (.iadd, 1) := by decide +kernel
theorem dX3_piece_135 : decode cX3_piece 135 = .ok (.putfield 58, 3) := by decide +kernel
theorem dX3_piece_138 : decode cX3_piece 138 = .ok (.aload_n 0, 1) := by decide +kernel
theorem dX3_piece_139 : decode cX3_piece 139 = .ok (.getfield 58, 3) := by decide +kernel
theorem dX3_piece_142 : decode cX3_piece 142 = .ok (.iconst 1, 1) := by decide +kernel
theorem dX3_piece_143 : decode cX3_piece 143 = .ok (.isub, 1) := by decide +kernel
theorem dX3_piece_144 : decode cX3_piece 144 = .ok (.ireturn, 1) := by decide +kernel
set_option maxRecDepth 20000 in
theorem ggX3_house_X3_isPoint : GoodIn wsX3_house wsX3_isPoint := goodIn_r _ [8, 9, 10, 7, 11] (by decide +kernel) (by decide +kernel)
set_option maxRecDepth 20000 in
theorem gX3_house_X3_isPoint : GoodIn wsX3_house (va_wsS RX3 54 yX3_isPoint wsX3_isPoint) := goodIn_app (goodIn_of _ (by decide +kernel)) ggX3_house_X3_isPoint
set_option maxRecDepth 20000 in
theorem ggX3_house_X3_within : GoodIn wsX3_house wsX3_within := goodIn_r _ [11] (by decide +kernel) (by decide +kernel)
set_option maxRecDepth 20000 in
theorem gX3_house_X3_within : GoodIn wsX3_house (va_wsS RX3 50 yX3_within wsX3_within) := goodIn_app (goodIn_of _ (by decide +kernel)) ggX3_house_X3_within
theorem dX3_house_0 : decode cX3_house 0 = .ok (.iload_n 1, 1) := by decide +kernel
theorem dX3_house_1 : decode cX3_house 1 = .ok (.iload_n 2, 1) := by decide +kernel
theorem dX3_house_2 : decode cX3_house 2 = .ok (.invokestatic 54, 3) := by decide +kernel
theorem dX3_house_5 : decode cX3_house 5 = .ok (.ifCond .eq 23, 3) := by decide +kernel
theorem dX3_house_8 : decode cX3_house 8 = .ok (.iload_n 3, 1) := by decide +kernel
theorem dX3_house_9 : decode cX3_house 9 = .ok (.iconst 0, 1) := by decide +kernel
theorem dX3_house_10 : decode cX3_house 10 = .ok (.sipush 1000, 3) := by decide +kernel
theorem dX3_house_13 : decode cX3_house 13 = .ok (.invokestatic 50, 3) := by decide +kernel
theorem dX3_house_16 : decode cX3_house 16 = .ok (.ifCond .eq 12, 3) := by decide +kernel
theorem dX3_house_19 : decode cX3_house 19 = .ok (.aload_n 0, 1) := by decide +kernel
theorem dX3_house_20 : decode cX3_house 20 = .ok (.getfield 61, 3) := by decide +kernel
theorem dX3_house_23 : decode cX3_house 23 = .ok (.bipush 20, 2) := by decide +kernel
theorem dX3_house_25 : decode cX3_house 25 = .ok (.if_icmp .ne 5, 3) := by decide +kernel
theorem dX3_house_28 : decode cX3_house 28 = .ok (.iconst (-1), 1) := by decide +kernel
theorem dX3_house_29 : decode cX3_house 29 = .ok (.ireturn, 1) := by decide +kernel
theorem dX3_house_30 : decode cX3_house 30 = .ok (.aload_n 0, 1) := by decide +kernel
theorem dX3_house_31 : decode cX3_house 31 = .ok (.getfield 19, 3) := by decide +kernel
theorem dX3_house_34 : decode cX3_house 34 = .ok (.aload_n 0, 1) := by decide +kernel
theorem dX3_house_35 : decode cX3_house 35 = .ok (.getfield 61, 3) := by decide +kernel
theorem dX3_house_38 : decode cX3_house 38 = .ok (.iload_n 1, 1) := by decide +kernel
theorem dX3_house_39 : decode cX3_house 39 = .ok (.iastore, 1) := by decide +kernel
theorem dX3_house_40 : decode cX3_house 40 = .ok (.aload_n 0, 1) := by decide +kernel
theorem dX3_house_41 : decode cX3_house 41 = .ok (.getfield 22, 3) := by decide +kernel
theorem dX3_house_44 : decode cX3_house 44 = .ok (.aload_n 0, 1) := by decide +kernel
theorem dX3_house_45 : decode cX3_house 45 = .ok (.getfield 61, 3) := by decide +kernel
theorem dX3_house_48 : decode cX3_house 48 = .ok (.iload_n 2, 1) := by decide +kernel
theorem dX3_house_49 : decode cX3_house 49 = .ok (.iastore, 1) := by decide +kernel
theorem dX3_house_50 : decode cX3_house 50 = .ok (.aload_n 0, 1) := by decide +kernel
theorem dX3_house_51 : decode cX3_house 51 = .ok (.getfield 25, 3) := by decide +kernel
theorem dX3_house_54 : decode cX3_house 54 = .ok (.aload_n 0, 1) := by decide +kernel
theorem dX3_house_55 : decode cX3_house 55 = .ok (.getfield 61, 3) := by decide +kernel
theorem dX3_house_58 : decode cX3_house 58 = .ok (.iload_n 3, 1) := by decide +kernel
theorem dX3_house_59 : decode cX3_house 59 = .ok (.iastore, 1) := by decide +kernel
theorem dX3_house_60 : decode cX3_house 60 = .ok (.aload_n 0, 1) := by decide +kernel
theorem dX3_house_61 : decode cX3_house 61 = .ok (.dup, 1) := by decide +kernel
theorem dX3_house_62 : decode cX3_house 62 = .ok (.getfield 61, 3) := by decide +kernel
theorem dX3_house_65 : decode cX3_house 65 = .ok (.iconst 1, 1) := by decide +kernel
theorem dX3_house_66 : decode cX3_house 66 = .ok (.iadd, 1) := by decide +kernel
theorem dX3_house_67 : decode cX3_house 67 = .ok (.putfield 61, 3) := by decide +kernel
theorem dX3_house_70 : decode cX3_house 70 = .ok (.aload_n 0, 1) := by decide +kernel
theorem dX3_house_71 : decode cX3_house 71 = .ok (.getfield 61, 3) := by decide +kernel
theorem dX3_house_74 : decode cX3_house 74 = .ok (.iconst 1, 1) := by decide +kernel
theorem dX3_house_75 : decode cX3_house 75 = .ok (.isub, 1) := by decide +kernel
theorem dX3_house_76 : decode cX3_house 76 = .ok (.ireturn, 1) := by decide +kernel
set_option maxRecDepth 20000 in
theorem ggX3_wall_X3_isPoint : GoodIn wsX3_wall wsX3_isPoint := goodIn_r _ [7, 8, 9, 6, 10] (by decide +kernel) (by decide +kernel)
set_option maxRecDepth 20000 in
theorem gX3_wall_X3_isPoint : GoodIn wsX3_wall (va_wsS RX3 54 yX3_isPoint wsX3_isPoint) := goodIn_app (goodIn_of _ (by decide +kernel)) ggX3_wall_X3_isPoint
set_option maxRecDepth 20000 in
theorem ggX3_wall_X3_within : GoodIn wsX3_wall wsX3_within := goodIn_r _ [10] (by decide +kernel) (by decide +kernel)
set_option maxRecDepth 20000 in
theorem gX3_wall_X3_within : GoodIn wsX3_wall (va_wsS RX3 50 yX3_within wsX3_within) := goodIn_app (goodIn_of _ (by decide +kernel)) ggX3_wall_X3_within
theorem dX3_wall_0 : decode cX3_wall 0 = .ok (.iload_n 1, 1) := by decide +kernel
theorem dX3_wall_1 : decode cX3_wall 1 = .ok (.iload_n 2, 1) := by decide +kernel
theorem dX3_wall_2 : decode cX3_wall 2 = .ok (.invokestatic 54, 3) := by decide +kernel
theorem dX3_wall_5 : decode cX3_wall 5 = .ok (.ifCond .eq 39, 3) := by decide +kernel
theorem dX3_wall_8 : decode cX3_wall 8 = .ok (.iload_n 3, 1) := by decide +kernel
theorem dX3_wall_9 : decode cX3_wall 9 = .ok (.iload 4, 2) := by decide +kernel
theorem dX3_wall_11 : decode cX3_wall 11 = .ok (.invokestatic 54, 3) := by decide +kernel
theorem dX3_wall_14 : decode cX3_wall 14 = .ok (.ifCond .eq 30, 3) := by decide +kernel
theorem dX3_wall_17 : decode cX3_wall 17 = .ok (.iload_n 1, 1) := by decide +kernel
theorem dX3_wall_18 : decode cX3_wall 18 = .ok (.iload_n 3, 1) := by decide +kernel
theorem dX3_wall_19 : decode cX3_wall 19 = .ok (.if_icmp .ne 9, 3) := by decide +kernel
theorem dX3_wall_22 : decode cX3_wall 22 = .ok (.iload_n 2, 1) := by decide +kernel
theorem dX3_wall_23 : decode cX3_wall 23 = .ok (.iload 4, 2) := by decide +kernel
theorem dX3_wall_25 : decode cX3_wall 25 = .ok (.if_icmp .eq 19, 3) := by decide +kernel
theorem dX3_wall_28 : decode cX3_wall 28 = .ok (.iload 5, 2) := by decide +kernel
theorem dX3_wall_30 : decode cX3_wall 30 = .ok (.iconst 0, 1) := by decide +kernel
theorem dX3_wall_31 : decode cX3_wall 31 = .ok (.sipush 300, 3) := by decide +kernel
theorem dX3_wall_34 : decode cX3_wall 34 = .ok (.invokestatic 50, 3) := by decide +kernel
theorem dX3_wall_37 : decode cX3_wall 37 = .ok (.ifCond .eq 7, 3) := by decide +kernel
theorem dX3_wall_40 : decode cX3_wall 40 = .ok (.iconst 1, 1) := by decide +kernel
theorem dX3_wall_41 : decode cX3_wall 41 = .ok (.goto 4, 3) := by decide +kernel
theorem dX3_wall_44 : decode cX3_wall 44 = .ok (.iconst 0, 1) := by decide +kernel
theorem dX3_wall_45 : decode cX3_wall 45 = .ok (.istore 6, 2) := by decide +kernel
theorem dX3_wall_47 : decode cX3_wall 47 = .ok (.iload 6, 2) := by decide +kernel
theorem dX3_wall_49 : decode cX3_wall 49 = .ok (.ifCond .eq 12, 3) := by decide +kernel
theorem dX3_wall_52 : decode cX3_wall 52 = .ok (.aload_n 0, 1) := by decide +kernel
theorem dX3_wall_53 : decode cX3_wall 53 = .ok (.getfield 64, 3) := by decide +kernel
theorem dX3_wall_56 : decode cX3_wall 56 = .ok (.bipush 8, 2) := by decide +kernel
theorem dX3_wall_58 : decode cX3_wall 58 = .ok (.if_icmp .ne 5, 3) := by decide +kernel
theorem dX3_wall_61 : decode cX3_wall 61 = .ok (.iconst (-1), 1) := by decide +kernel
theorem dX3_wall_62 : decode cX3_wall 62 = .ok (.ireturn, 1) := by decide +kernel
theorem dX3_wall_63 : decode cX3_wall 63 = .ok (.aload_n 0, 1) := by decide +kernel
theorem dX3_wall_64 : decode cX3_wall 64 = .ok (.getfield 28, 3) := by decide +kernel
theorem dX3_wall_67 : decode cX3_wall 67 = .ok (.iconst 4, 1) := by decide +kernel
theorem dX3_wall_68 : decode cX3_wall 68 = .ok (.aload_n 0, 1) := by decide +kernel
theorem dX3_wall_69 : decode cX3_wall 69 = .ok (.getfield 64, 3) := by decide +kernel
theorem dX3_wall_72 : decode cX3_wall 72 = .ok (.imul, 1) := by decide +kernel
theorem dX3_wall_73 : decode cX3_wall 73 = .ok (.iload_n 1, 1) := by decide +kernel
theorem dX3_wall_74 : decode cX3_wall 74 = .ok (.iastore, 1) := by decide +kernel
theorem dX3_wall_75 : decode cX3_wall 75 = .ok (.aload_n 0, 1) := by decide +kernel
theorem dX3_wall_76 : decode cX3_wall 76 = .ok (.getfield 28, 3) := by decide +kernel
theorem dX3_wall_79 : decode cX3_wall 79 = .ok (.iconst 4, 1) := by decide +kernel
theorem dX3_wall_80 : decode cX3_wall 80 = .ok (.aload_n 0, 1) := by decide +kernel
theorem dX3_wall_81 : decode cX3_wall 81 = .ok (.getfield 64, 3) := by decide +kernel
theorem dX3_wall_84 : decode cX3_wall 84 = .ok (.imul, 1) := by decide +kernel
theorem dX3_wall_85 : decode cX3_wall 85 = .ok (.iconst 1, 1) := by decide +kernel
theorem dX3_wall_86 : decode cX3_wall 86 = .ok (.iadd, 1) := by decide +kernel
theorem dX3_wall_87 : decode cX3_wall 87 = .ok (.iload_n 2, 1) := by decide +kernel
theorem dX3_wall_88 : decode cX3_wall 88 = .ok (.iastore, 1) := by decide +kernel
theorem dX3_wall_89 : decode cX3_wall 89 = .ok (.aload_n 0, 1) := by decide +kernel
theorem dX3_wall_90 : decode cX3_wall 90 = .ok (.getfield 28, 3) := by decide +kernel
theorem dX3_wall_93 : decode cX3_wall 93 = .ok (.iconst 4, 1) := by decide +kernel
theorem dX3_wall_94 : decode cX3_wall 94 = .ok (.aload_n 0, 1) := by decide +kernel
theorem dX3_wall_95 : decode cX3_wall 95 = .ok (.getfield 64, 3) := by decide +kernel
theorem dX3_wall_98 : decode cX3_wall 98 = .ok (.imul, 1) := by decide +kernel
theorem dX3_wall_99 : decode cX3_wall 99 = .ok (.iconst 2, 1) := by decide +kernel
theorem dX3_wall_100 : decode cX3_wall 100 = .ok (.iadd, 1) := by decide +kernel
theorem dX3_wall_101 : decode cX3_wall 101 = .ok (.iload_n 3, 1) := by decide +kernel
theorem dX3_wall_102 : decode cX3_wall 102 = .ok (.iastore, 1) := by decide +kernel
theorem dX3_wall_103 : decode cX3_wall 103 = .ok (.aload_n 0, 1) := by decide +kernel
theorem dX3_wall_104 : decode cX3_wall 104 = .ok (.getfield 28, 3) := by decide +kernel
theorem dX3_wall_107 : decode cX3_wall 107 = .ok (.iconst 4, 1) := by decide +kernel
theorem dX3_wall_108 : decode cX3_wall 108 = .ok (.aload_n 0, 1) := by decide +kernel
theorem dX3_wall_109 : decode cX3_wall 109 = .ok (.getfield 64, 3) := by decide +kernel
theorem dX3_wall_112 : decode cX3_wall 112 = .ok (.imul, 1) := by decide +kernel
theorem dX3_wall_113 : decode cX3_wall 113 = .ok (.iconst 3, 1) := by decide +kernel
theorem dX3_wall_114 : decode cX3_wall 114 = .ok (.iadd, 1) := by decide +kernel
theorem dX3_wall_115 : decode cX3_wall 115 = .ok (.iload 4, 2) := by decide +kernel
theorem dX3_wall_117 : decode cX3_wall 117 = .ok (.iastore, 1) := by decide +kernel
theorem dX3_wall_118 : decode cX3_wall 118 = .ok (.aload_n 0, 1) := by decide +kernel
theorem dX3_wall_119 : decode cX3_wall 119 = .ok (.getfield 31, 3) := by decide +kernel
theorem dX3_wall_122 : decode cX3_wall 122 = .ok (.aload_n 0, 1) := by decide +kernel
theorem dX3_wall_123 : decode cX3_wall 123 = .ok (.getfield 64, 3) := by decide +kernel
theorem dX3_wall_126 : decode cX3_wall 126 = .ok (.iload 5, 2) := by decide +kernel
theorem dX3_wall_128 : decode cX3_wall 128 = .ok (.iastore, 1) := by decide +kernel
theorem dX3_wall_129 : decode cX3_wall 129 = .ok (.aload_n 0, 1) := by decide +kernel
theorem dX3_wall_130 : decode cX3_wall 130 = .ok (.dup, 1) := by decide +kernel
theorem dX3_wall_131 : decode cX3_wall 131 = .ok (.getfield 64, 3) := by decide +kernel
theorem dX3_wall_134 : decode cX3_wall 134 = .ok (.iconst 1, 1) := by decide +kernel
theorem dX3_wall_135 : decode cX3_wall 135 = .ok (.iadd, 1) := by decide +kernel
theorem dX3_wall_136 : decode cX3_wall 136 = .ok (.putfield 64, 3) := by decide +kernel
theorem dX3_wall_139 : decode cX3_wall 139 = .ok (.aload_n 0, 1) := by decide +kernel
theorem dX3_wall_140 : decode cX3_wall 140 = .ok (.getfield 64, 3) := by decide +kernel
theorem dX3_wall_143 : decode cX3_wall 143 = .ok (.iconst 1, 1) := by decide +kernel
theorem dX3_wall_144 : decode cX3_wall 144 = .ok (.isub, 1) := by decide +kernel
theorem dX3_wall_145 : decode cX3_wall 145 = .ok (.ireturn, 1) := by decide +kernel
set_option maxRecDepth 20000 in
theorem ggX3_fall_X3_within : GoodIn wsX3_fall wsX3_within := goodIn_r _ [5] (by decide +kernel) (by decide +kernel)
set_option maxRecDepth 20000 in
theorem gX3_fall_X3_within : GoodIn wsX3_fall (va_wsS RX3 50 yX3_within wsX3_within) := goodIn_app (goodIn_of _ (by decide +kernel)) ggX3_fall_X3_within
theorem dX3_fall_0 : decode cX3_fall 0 = .ok (.iload_n 1, 1) := by decide +kernel
theorem dX3_fall_1 : decode cX3_fall 1 = .ok (.iconst 0, 1) := by decide +kernel
theorem dX3_fall_2 : decode cX3_fall 2 = .ok (.bipush 60, 2) := by decide +kernel
theorem dX3_fall_4 : decode cX3_fall 4 = .ok (.invokestatic 50, 3) := by decide +kernel
theorem dX3_fall_7 : decode cX3_fall 7 = .ok (.ifCond .ne 5, 3) := by decide +kernel
theorem dX3_fall_10 : decode cX3_fall 10 = .ok (.iconst (-1), 1) := by decide +kernel
theorem dX3_fall_11 : decode cX3_fall 11 = .ok (.ireturn, 1) := by decide +kernel
theorem dX3_fall_12 : decode cX3_fall 12 = .ok (.aload_n 0, 1) := by decide +kernel
theorem dX3_fall_13 : decode cX3_fall 13 = .ok (.getfield 34, 3) := by decide +kernel
theorem dX3_fall_16 : decode cX3_fall 16 = .ok (.istore_n 2, 1) := by decide +kernel
theorem dX3_fall_17 : decode cX3_fall 17 = .ok (.aload_n 0, 1) := by decide +kernel
theorem dX3_fall_18 : decode cX3_fall 18 = .ok (.iload_n 1, 1) := by decide +kernel
theorem dX3_fall_19 : decode cX3_fall 19 = .ok (.putfield 34, 3) := by decide +kernel
theorem dX3_fall_22 : decode cX3_fall 22 = .ok (.iload_n 2, 1) := by decide +kernel
theorem dX3_fall_23 : decode cX3_fall 23 = .ok (.ireturn, 1) := by decide +kernel
set_option maxRecDepth 20000 in
theorem ggX3_malus_X3_within : GoodIn wsX3_malus wsX3_within := goodIn_r _ [5] (by decide +kernel) (by decide +kernel)
set_option maxRecDepth 20000 in
theorem gX3_malus_X3_within : GoodIn wsX3_malus (va_wsS RX3 50 yX3_within wsX3_within) := goodIn_app (goodIn_of _ (by decide +kernel)) ggX3_malus_X3_within
theorem dX3_malus_0 : decode cX3_malus 0 = .ok (.iload_n 1, 1) := by decide +kernel
theorem dX3_malus_1 : decode cX3_malus 1 = .ok (.iconst 0, 1) := by decide +kernel
theorem dX3_malus_2 : decode cX3_malus 2 = .ok (.iconst 2, 1) := by decide +kernel
theorem dX3_malus_3 : decode cX3_malus 3 = .ok (.invokestatic 50, 3) := by decide +kernel
theorem dX3_malus_6 : decode cX3_malus 6 = .ok (.ifCond .eq 14, 3) := by decide +kernel
theorem dX3_malus_9 : decode cX3_malus 9 = .ok (.iload_n 2, 1) := by decide +kernel
theorem dX3_malus_10 : decode cX3_malus 10 = .ok (.iconst 0, 1) := by decide +kernel
theorem dX3_malus_11 : decode cX3_malus 11 = .ok (.sipush 200, 3) := by decide +kernel
theorem dX3_malus_14 : decode cX3_malus 14 = .ok (.invokestatic 50, 3) := by decide +kernel
theorem dX3_malus_17 : decode cX3_malus 17 = .ok (.ifCond .ne 5, 3) := by decide +kernel
theorem dX3_malus_20 : decode cX3_malus 20 = .ok (.iconst (-1), 1) := by decide +kernel
theorem dX3_malus_21 : decode cX3_malus 21 = .ok (.ireturn, 1) := by decide +kernel
theorem dX3_malus_22 : decode cX3_malus 22 = .ok (.aload_n 0, 1) := by decide +kernel
theorem dX3_malus_23 : decode cX3_malus 23 = .ok (.getfield 38, 3) := by decide +kernel
theorem dX3_malus_26 : decode cX3_malus 26 = .ok (.iload_n 1, 1) := by decide +kernel
theorem dX3_malus_27 : decode cX3_malus 27 = .ok (.iaload, 1) := by decide +kernel
theorem dX3_malus_28 : decode cX3_malus 28 = .ok (.istore_n 3, 1) := by decide +kernel
theorem dX3_malus_29 : decode cX3_malus 29 = .ok (.aload_n 0, 1) := by decide +kernel
theorem dX3_malus_30 : decode cX3_malus 30 = .ok (.getfield 38, 3) := by decide +kernel
theorem dX3_malus_33 : decode cX3_malus 33 = .ok (.iload_n 1, 1) := by decide +kernel
theorem dX3_malus_34 : decode cX3_malus 34 = .ok (.iload_n 2, 1) := by decide +kernel
theorem dX3_malus_35 : decode cX3_malus 35 = .ok (.iastore, 1) := by decide +kernel
theorem dX3_malus_36 : decode cX3_malus 36 = .ok (.iload_n 3, 1) := by decide +kernel
theorem dX3_malus_37 : decode cX3_malus 37 = .ok (.ireturn, 1) := by decide +kernel
theorem dX3_side_0 : decode cX3_side 0 = .ok (.lload 4, 2) := by decide +kernel
theorem dX3_side_2 : decode cX3_side 2 = .ok (.lload_n 0, 1) := by decide +kernel
theorem dX3_side_3 : decode cX3_side 3 = .ok (.lsub, 1) := by decide +kernel
theorem dX3_side_4 : decode cX3_side 4 = .ok (.lload 10, 2) := by decide +kernel
theorem dX3_side_6 : decode cX3_side 6 = .ok (.lload_n 2, 1) := by decide +kernel
theorem dX3_side_7 : decode cX3_side 7 = .ok (.lsub, 1) := by decide +kernel
theorem dX3_side_8 : decode cX3_side 8 = .ok (.lmul, 1) := by decide +kernel
theorem dX3_side_9 : decode cX3_side 9 = .ok (.lload 6, 2) := by decide +kernel
theorem dX3_side_11 : decode cX3_side 11 = .ok (.lload_n 2, 1) := by decide +kernel
theorem dX3_side_12 : decode cX3_side 12 = .ok (.lsub, 1) := by decide +kernel
theorem dX3_side_13 : decode cX3_side 13 = .ok (.lload 8, 2) := by decide +kernel
theorem dX3_side_15 : decode cX3_side 15 = .ok (.lload_n 0, 1) := by decide +kernel
theorem dX3_side_16 : decode cX3_side 16 = .ok (.lsub, 1) := by decide +kernel
theorem dX3_side_17 : decode cX3_side 17 = .ok (.lmul, 1) := by decide +kernel
theorem dX3_side_18 : decode cX3_side 18 = .ok (.lsub, 1) := by decide +kernel
theorem dX3_side_19 : decode cX3_side 19 = .ok (.lstore 12, 2) := by decide +kernel
theorem dX3_side_21 : decode cX3_side 21 = .ok (.lload 12, 2) := by decide +kernel
theorem dX3_side_23 : decode cX3_side 23 = .ok (.lconst 0, 1) := by decide +kernel
theorem dX3_side_24 : decode cX3_side 24 = .ok (.lcmp, 1) := by decide +kernel
theorem dX3_side_25 : decode cX3_side 25 = .ok (.ifCond .le 7, 3) := by decide +kernel
theorem dX3_side_28 : decode cX3_side 28 = .ok (.iconst 1, 1) := by decide +kernel
theorem dX3_side_29 : decode cX3_side 29 = .ok (.goto 15, 3) := by decide +kernel
theorem dX3_side_32 : decode cX3_side 32 = .ok (.lload 12, 2) := by decide +kernel
theorem dX3_side_34 : decode cX3_side 34 = .ok (.lconst 0, 1) := by decide +kernel
theorem dX3_side_35 : decode cX3_side 35 = .ok (.lcmp, 1) := by decide +kernel
theorem dX3_side_36 : decode cX3_side 36 = .ok (.ifCond .ge 7, 3) := by decide +kernel
theorem dX3_side_39 : decode cX3_side 39 = .ok (.iconst (-1), 1) := by decide +kernel
theorem dX3_side_40 : decode cX3_side 40 = .ok (.goto 4, 3) := by decide +kernel
theorem dX3_side_43 : decode cX3_side 43 = .ok (.iconst 0, 1) := by decide +kernel
theorem dX3_side_44 : decode cX3_side 44 = .ok (.ireturn, 1) := by decide +kernel
theorem dX3_isBetween_0 : decode cX3_isBetween 0 = .ok (.iload_n 0, 1) := by decide +kernel
theorem dX3_isBetween_1 : decode cX3_isBetween 1 = .ok (.iload_n 2, 1) := by decide +kernel
theorem dX3_isBetween_2 : decode cX3_isBetween 2 = .ok (.if_icmp .ge 23, 3) := by decide +kernel
theorem dX3_isBetween_5 : decode cX3_isBetween 5 = .ok (.iload 4, 2) := by decide +kernel
theorem dX3_isBetween_7 : decode cX3_isBetween 7 = .ok (.iload_n 0, 1) := by decide +kernel
theorem dX3_isBetween_8 : decode cX3_isBetween 8 = .ok (.if_icmp .lt 13, 3) := by decide +kernel
theorem dX3_isBetween_11 : decode cX3_isBetween 11 = .ok (.iload 4, 2) := by decide +kernel
theorem dX3_isBetween_13 : decode cX3_isBetween 13 = .ok (.iload_n 2, 1) := by decide +kernel
theorem dX3_isBetween_14 : decode cX3_isBetween 14 = .ok (.if_icmp .gt 7, 3) := by decide +kernel
theorem dX3_isBetween_17 : decode cX3_isBetween 17 = .ok (.iconst 1, 1) := by decide +kernel
theorem dX3_isBetween_18 : decode cX3_isBetween 18 = .ok (.goto 24, 3) := by decide +kernel
theorem dX3_isBetween_21 : decode cX3_isBetween 21 = .ok (.iconst 0, 1) := by decide +kernel
theorem dX3_isBetween_22 : decode cX3_isBetween 22 = .ok (.goto 20, 3) := by decide +kernel
theorem dX3_isBetween_25 : decode cX3_isBetween 25 = .ok (.iload 4, 2) := by decide +kernel
theorem dX3_isBetween_27 : decode cX3_isBetween 27 = .ok (.iload_n 2, 1) := by decide +kernel
theorem dX3_isBetween_28 : decode cX3_isBetween 28 = .ok (.if_icmp .lt 13, 3) := by decide +kernel
theorem dX3_isBetween_31 : decode cX3_isBetween 31 = .ok (.iload 4, 2) := by decide +kernel
theorem dX3_isBetween_33 : decode cX3_isBetween 33 = .ok (.iload_n 0, 1) := by decide +kernel
theorem dX3_isBetween_34 : decode cX3_isBetween 34 = .ok (.if_icmp .gt 7, 3) := by decide +kernel
theorem dX3_isBetween_37 : decode cX3_isBetween 37 = .ok (.iconst 1, 1) := by decide +kernel
theorem dX3_isBetween_38 : decode cX3_isBetween 38 = .ok (.goto 4, 3) := by decide +kernel
theorem dX3_isBetween_41 : decode cX3_isBetween 41 = .ok (.iconst 0, 1) := by decide +kernel
theorem dX3_isBetween_42 : decode cX3_isBetween 42 = .ok (.istore 6, 2) := by decide +kernel
theorem dX3_isBetween_44 : decode cX3_isBetween 44 = .ok (.iload_n 1, 1) := by decide +kernel
theorem dX3_isBetween_45 : decode cX3_isBetween 45 = .ok (.iload_n 3, 1) := by decide +kernel
theorem dX3_isBetween_46 : decode cX3_isBetween 46 = .ok (.if_icmp .ge 23, 3) := by decide +kernel
theorem dX3_isBetween_49 : decode cX3_isBetween 49 = .ok (.iload 5, 2) := by decide +kernel
theorem dX3_isBetween_51 : decode cX3_isBetween 51 = .ok (.iload_n 1, 1) := by decide +kernel
theorem dX3_isBetween_52 : decode cX3_isBetween 52 = .ok (.if_icmp .lt 13, 3) := by decide +kernel
theorem dX3_isBetween_55 : decode cX3_isBetween 55 = .ok (.iload 5, 2) := by decide +kernel
theorem dX3_isBetween_57 : decode cX3_isBetween 57 = .ok (.iload_n 3, 1) := by decide +kernel
theorem dX3_isBetween_58 : decode cX3_isBetween 58 = .ok (.if_icmp .gt 7, 3) := by decide +kernel
theorem dX3_isBetween_61 : decode cX3_isBetween 61 = .ok (.iconst 1, 1) := by decide +kernel
theorem dX3_isBetween_62 : decode cX3_isBetween 62 = .ok (.goto 24, 3) := by decide +kernel
theorem dX3_isBetween_65 : decode cX3_isBetween 65 = .ok (.iconst 0, 1) := by decide +kernel
theorem dX3_isBetween_66 : decode cX3_isBetween 66 = .ok (.goto 20, 3) := by decide +kernel
theorem dX3_isBetween_69 : decode cX3_isBetween 69 = .ok (.iload 5, 2) := by decide +kernel
theorem dX3_isBetween_71 : decode cX3_isBetween 71 = .ok (.iload_n 3, 1) := by decide +kernel
theorem dX3_isBetween_72 : decode cX3_isBetween 72 = .ok (.if_icmp .lt 13, 3) := by decide +kernel
theorem dX3_isBetween_75 : decode cX3_isBetween 75 = .ok (.iload 5, 2) := by decide +kernel
theorem dX3_isBetween_77 : decode cX3_isBetween 77 = .ok (.iload_n 1, 1) := by decide +kernel
theorem dX3_isBetween_78 : decode cX3_isBetween 78 = .ok (.if_icmp .gt 7, 3) := by decide +kernel
theorem dX3_isBetween_81 : decode cX3_isBetween 81 = .ok (.iconst 1, 1) := by decide +kernel
theorem dX3_isBetween_82 : decode cX3_isBetween 82 = .ok (.goto 4, 3) := by decide +kernel
theorem dX3_isBetween_85 : decode cX3_isBetween 85 = .ok (.iconst 0, 1) := by decide +kernel
theorem dX3_isBetween_86 : decode cX3_isBetween 86 = .ok (.istore 7, 2) := by decide +kernel
theorem dX3_isBetween_88 : decode cX3_isBetween 88 = .ok (.iload 6, 2) := by decide +kernel
theorem dX3_isBetween_90 : decode cX3_isBetween 90 = .ok (.ifCond .eq 12, 3) := by decide +kernel
theorem dX3_isBetween_93 : decode cX3_isBetween 93 = .ok (.iload 7, 2) := by decide +kernel
theorem dX3_isBetween_95 : decode cX3_isBetween 95 = .ok (.ifCond .eq 7, 3) := by decide +kernel
theorem dX3_isBetween_98 : decode cX3_isBetween 98 = .ok (.iconst 1, 1) := by decide +kernel
theorem dX3_isBetween_99 : decode cX3_isBetween 99 = .ok (.goto 4, 3) := by decide +kernel
theorem dX3_isBetween_102 : decode cX3_isBetween 102 = .ok (.iconst 0, 1) := by decide +kernel
theorem dX3_isBetween_103 : decode cX3_isBetween 103 = .ok (.ireturn, 1) := by decide +kernel
set_option maxRecDepth 20000 in
theorem ggX3_crosses_X3_side : GoodIn wsX3_crosses wsX3_side := goodIn_r _ [5] (by decide +kernel) (by decide +kernel)
set_option maxRecDepth 20000 in
theorem gX3_crosses_X3_side : GoodIn wsX3_crosses (va_wsS RX3 67 yX3_side wsX3_side) := goodIn_app (goodIn_of _ (by decide +kernel)) ggX3_crosses_X3_side
set_option maxRecDepth 20000 in
theorem ggX3_crosses_X3_isBetween : GoodIn wsX3_crosses wsX3_isBetween := goodIn_r _ [8] (by decide +kernel) (by decide +kernel)
set_option maxRecDepth 20000 in
theorem gX3_crosses_X3_isBetween : GoodIn wsX3_crosses (va_wsS RX3 71 yX3_isBetween wsX3_isBetween) := goodIn_app (goodIn_of _ (by decide +kernel)) ggX3_crosses_X3_isBetween
theorem dX3_crosses_0 : decode cX3_crosses 0 = .ok (.aload_n 0, 1) := by decide +kernel
theorem dX3_crosses_1 : decode cX3_crosses 1 = .ok (.getfield 28, 3) := by decide +kernel
theorem dX3_crosses_4 : decode cX3_crosses 4 = .ok (.iconst 4, 1) := by decide +kernel
theorem dX3_crosses_5 : decode cX3_crosses 5 = .ok (.iload_n 1, 1) := by decide +kernel
theorem dX3_crosses_6 : decode cX3_crosses 6 = .ok (.imul, 1) := by decide +kernel
theorem dX3_crosses_7 : decode cX3_crosses 7 = .ok (.iaload, 1) := by decide +kernel
theorem dX3_crosses_8 : decode cX3_crosses 8 = .ok (.istore 6, 2) := by decide +kernel
theorem dX3_crosses_10 : decode cX3_crosses 10 = .ok (.aload_n 0, 1) := by decide +kernel
theorem dX3_crosses_11 : decode cX3_crosses 11 = .ok (.getfield 28, 3) := by decide +kernel
theorem dX3_crosses_14 : decode cX3_crosses 14 = .ok (.iconst 4, 1) := by decide +kernel
theorem dX3_crosses_15 : decode cX3_crosses 15 = .ok (.iload_n 1, 1) := by decide +kernel
theorem dX3_crosses_16 : decode cX3_crosses 16 = .ok (.imul, 1) := by decide +kernel
theorem dX3_crosses_17 : decode cX3_crosses 17 = .ok (.iconst 1, 1) := by decide +kernel
theorem dX3_crosses_18 : decode cX3_crosses 18 = .ok (.iadd, 1) := by decide +kernel
theorem dX3_crosses_19 : decode cX3_crosses 19 = .ok (.iaload, 1) := by decide +kernel
theorem dX3_crosses_20 : decode cX3_crosses 20 = .ok (.istore 7, 2) := by decide +kernel
theorem dX3_crosses_22 : decode cX3_crosses 22 = .ok (.aload_n 0, 1) := by decide +kernel
theorem dX3_crosses_23 : decode cX3_crosses 23 = .ok (.getfield 28, 3) := by decide +kernel
theorem dX3_crosses_26 : decode cX3_crosses 26 = .ok (.iconst 4, 1) := by decide +kernel
theorem dX3_crosses_27 : decode cX3_crosses 27 = .ok (.iload_n 1, 1) := by decide +kernel
theorem dX3_crosses_28 : decode cX3_crosses 28 = .ok (.imul, 1) := by decide +kernel
theorem dX3_crosses_29 : decode cX3_crosses 29 = .ok (.iconst 2, 1) := by decide +kernel
theorem dX3_crosses_30 : decode cX3_crosses 30 = .ok (.iadd, 1) := by decide +kernel
theorem dX3_crosses_31 : decode cX3_crosses 31 = .ok (.iaload, 1) := by decide +kernel
theorem dX3_crosses_32 : decode cX3_crosses 32 = .ok (.istore 8, 2) := by decide +kernel
theorem dX3_crosses_34 : decode cX3_crosses 34 = .ok (.aload_n 0, 1) := by decide +kernel
theorem dX3_crosses_35 : decode cX3_crosses 35 = .ok (.getfield 28, 3) := by decide +kernel
theorem dX3_crosses_38 : decode cX3_crosses 38 = .ok (.iconst 4, 1) := by decide +kernel
theorem dX3_crosses_39 : decode cX3_crosses 39 = .ok (.iload_n 1, 1) := by decide +kernel
theorem dX3_crosses_40 : decode cX3_crosses 40 = .ok (.imul, 1) := by decide +kernel
theorem dX3_crosses_41 : decode cX3_crosses 41 = .ok (.iconst 3, 1) := by decide +kernel
theorem dX3_crosses_42 : decode cX3_crosses 42 = .ok (.iadd, 1) := by decide +kernel
theorem dX3_crosses_43 : decode cX3_crosses 43 = .ok (.iaload, 1) := by decide +kernel
theorem dX3_crosses_44 : decode cX3_crosses 44 = .ok (.istore 9, 2) := by decide +kernel
theorem dX3_crosses_46 : decode cX3_crosses 46 = .ok (.iload 6, 2) := by decide +kernel
theorem dX3_crosses_48 : decode cX3_crosses 48 = .ok (.i2l, 1) := by decide +kernel
theorem dX3_crosses_49 : decode cX3_crosses 49 = .ok (.iload 7, 2) := by decide +kernel
theorem dX3_crosses_51 : decode cX3_crosses 51 = .ok (.i2l, 1) := by decide +kernel
theorem dX3_crosses_52 : decode cX3_crosses 52 = .ok (.iload 8, 2) := by decide +kernel
theorem dX3_crosses_54 : decode cX3_crosses 54 = .ok (.i2l, 1) := by decide +kernel
theorem dX3_crosses_55 : decode cX3_crosses 55 = .ok (.iload 9, 2) := by decide +kernel
theorem dX3_crosses_57 : decode cX3_crosses 57 = .ok (.i2l, 1) := by decide +kernel
theorem dX3_crosses_58 : decode cX3_crosses 58 = .ok (.iload_n 2, 1) := by decide +kernel
theorem dX3_crosses_59 : decode cX3_crosses 59 = .ok (.i2l, 1) := by decide +kernel
theorem dX3_crosses_60 : decode cX3_crosses 60 = .ok (.iload_n 3, 1) := by decide +kernel
theorem dX3_crosses_61 : decode cX3_crosses 61 = .ok (.i2l, 1) := by decide +kernel
theorem dX3_crosses_62 : decode cX3_crosses 62 = .ok (.invokestatic 67, 3) := by decide +kernel
theorem dX3_crosses_65 : decode cX3_crosses 65 = .ok (.istore 10, 2) := by decide +kernel
theorem dX3_crosses_67 : decode cX3_crosses 67 = .ok (.iload 6, 2) := by decide +kernel
theorem dX3_crosses_69 : decode cX3_crosses 69 = .ok (.i2l, 1) := by decide +kernel
theorem dX3_crosses_70 : decode cX3_crosses 70 = .ok (.iload 7, 2) := by decide +kernel
theorem dX3_crosses_72 : decode cX3_crosses 72 = .ok (.i2l, 1) := by decide +kernel
theorem dX3_crosses_73 : decode cX3_crosses 73 = .ok (.iload 8, 2) := by decide +kernel
theorem dX3_crosses_75 : decode cX3_crosses 75 = .ok (.i2l, 1) := by decide +kernel
theorem dX3_crosses_76 : decode cX3_crosses 76 = .ok (.iload 9, 2) := by decide +kernel
theorem dX3_crosses_78 : decode cX3_crosses 78 = .ok (.i2l, 1) := by decide +kernel
theorem dX3_crosses_79 : decode cX3_crosses 79 = .ok (.iload 4, 2) := by decide +kernel
theorem dX3_crosses_81 : decode cX3_crosses 81 = .ok (.i2l, 1) := by decide +kernel
theorem dX3_crosses_82 : decode cX3_crosses 82 = .ok (.iload 5, 2) := by decide +kernel
theorem dX3_crosses_84 : decode cX3_crosses 84 = .ok (.i2l, 1) := by decide +kernel
theorem dX3_crosses_85 : decode cX3_crosses 85 = .ok (.invokestatic 67, 3) := by decide +kernel
theorem dX3_crosses_88 : decode cX3_crosses 88 = .ok (.istore 11, 2) := by decide +kernel
theorem dX3_crosses_90 : decode cX3_crosses 90 = .ok (.iload_n 2, 1) := by decide +kernel
theorem dX3_crosses_91 : decode cX3_crosses 91 = .ok (.i2l, 1) := by decide +kernel
theorem dX3_crosses_92 : decode cX3_crosses 92 = .ok (.iload_n 3, 1) := by decide +kernel
theorem dX3_crosses_93 : decode cX3_crosses 93 = .ok (.i2l, 1) := by decide +kernel
theorem dX3_crosses_94 : decode cX3_crosses 94 = .ok (.iload 4, 2) := by decide +kernel
theorem dX3_crosses_96 : decode cX3_crosses 96 = .ok (.i2l, 1) := by decide +kernel
theorem dX3_crosses_97 : decode cX3_crosses 97 = .ok (.iload 5, 2) := by decide +kernel
theorem dX3_crosses_99 : decode cX3_crosses 99 = .ok (.i2l, 1) := by decide +kernel
theorem dX3_crosses_100 : decode cX3_crosses 100 = .ok (.iload 6, 2) := by decide +kernel
theorem dX3_crosses_102 : decode cX3_crosses 102 = .ok (.i2l, 1) := by decide +kernel
theorem dX3_crosses_103 : decode cX3_crosses 103 = .ok (.iload 7, 2) := by decide +kernel
theorem dX3_crosses_105 : decode cX3_crosses 105 = .ok (.i2l, 1) := by decide +kernel
theorem dX3_crosses_106 : decode cX3_crosses 106 = .ok (.invokestatic 67, 3) := by decide +kernel
theorem dX3_crosses_109 : decode cX3_crosses 109 = .ok (.istore 12, 2) := by decide +kernel
theorem dX3_crosses_111 : decode cX3_crosses 111 = .ok (.iload_n 2, 1) := by decide +kernel
theorem dX3_crosses_112 : decode cX3_crosses 112 = .ok (.i2l, 1) := by decide +kernel
theorem dX3_crosses_113 : decode cX3_crosses 113 = .ok (.iload_n 3, 1) := by decide +kernel
theorem dX3_crosses_114 : decode cX3_crosses 114 = .ok (.i2l, 1) := by decide +kernel
theorem dX3_crosses_115 : decode cX3_crosses 115 = .ok (.iload 4, 2) := by decide +kernel
theorem dX3_crosses_117 : decode cX3_crosses 117 = .ok (.i2l, 1) := by decide +kernel
theorem dX3_crosses_118 : decode cX3_crosses 118 = .ok (.iload 5, 2) := by decide +kernel
theorem dX3_crosses_120 : decode cX3_crosses 120 = .ok (.i2l, 1) := by decide +kernel
theorem dX3_crosses_121 : decode cX3_crosses 121 = .ok (.iload 8, 2) := by decide +kernel
theorem dX3_crosses_123 : decode cX3_crosses 123 = .ok (.i2l, 1) := by decide +kernel
theorem dX3_crosses_124 : decode cX3_crosses 124 = .ok (.iload 9, 2) := by decide +kernel
theorem dX3_crosses_126 : decode cX3_crosses 126 = .ok (.i2l, 1) := by decide +kernel
theorem dX3_crosses_127 : decode cX3_crosses 127 = .ok (.invokestatic 67, 3) := by decide +kernel
theorem dX3_crosses_130 : decode cX3_crosses 130 = .ok (.istore 13, 2) := by decide +kernel
theorem dX3_crosses_132 : decode cX3_crosses 132 = .ok (.iload_n 2, 1) := by decide +kernel
theorem dX3_crosses_133 : decode cX3_crosses 133 = .ok (.iload 4, 2) := by decide +kernel
theorem dX3_crosses_135 : decode cX3_crosses 135 = .ok (.if_icmp .ne 9, 3) := by decide +kernel
theorem dX3_crosses_138 : decode cX3_crosses 138 = .ok (.iload_n 3, 1) := by decide +kernel
theorem dX3_crosses_139 : decode cX3_crosses 139 = .ok (.iload 5, 2) := by decide +kernel
theorem dX3_crosses_141 : decode cX3_crosses 141 = .ok (.if_icmp .eq 7, 3) := by decide +kernel
theorem dX3_crosses_144 : decode cX3_crosses 144 = .ok (.iconst 1, 1) := by decide +kernel
theorem dX3_crosses_145 : decode cX3_crosses 145 = .ok (.goto 4, 3) := by decide +kernel
theorem dX3_crosses_148 : decode cX3_crosses 148 = .ok (.iconst 0, 1) := by decide +kernel
theorem dX3_crosses_149 : decode cX3_crosses 149 = .ok (.istore 14, 2) := by decide +kernel
theorem dX3_crosses_151 : decode cX3_crosses 151 = .ok (.iload 14, 2) := by decide +kernel
theorem dX3_crosses_153 : decode cX3_crosses 153 = .ok (.ifCond .eq 21, 3) := by decide +kernel
theorem dX3_crosses_156 : decode cX3_crosses 156 = .ok (.iload 10, 2) := by decide +kernel
theorem dX3_crosses_158 : decode cX3_crosses 158 = .ok (.iload 11, 2) := by decide +kernel
theorem dX3_crosses_160 : decode cX3_crosses 160 = .ok (.imul, 1) := by decide +kernel
theorem dX3_crosses_161 : decode cX3_crosses 161 = .ok (.ifCond .ge 13, 3) := by decide +kernel
theorem dX3_crosses_164 : decode cX3_crosses 164 = .ok (.iload 12, 2) := by decide +kernel
theorem dX3_crosses_166 : decode cX3_crosses 166 = .ok (.iload 13, 2) := by decide +kernel
theorem dX3_crosses_168 : decode cX3_crosses 168 = .ok (.imul, 1) := by decide +kernel
theorem dX3_crosses_169 : decode cX3_crosses 169 = .ok (.ifCond .ge 5, 3) := by decide +kernel
theorem dX3_crosses_172 : decode cX3_crosses 172 = .ok (.iconst 1, 1) := by decide +kernel
theorem dX3_crosses_173 : decode cX3_crosses 173 = .ok (.ireturn, 1) := by decide +kernel
theorem dX3_crosses_174 : decode cX3_crosses 174 = .ok (.iload 10, 2) := by decide +kernel
theorem dX3_crosses_176 : decode cX3_crosses 176 = .ok (.ifCond .ne 19, 3) := by decide +kernel
theorem dX3_crosses_179 : decode cX3_crosses 179 = .ok (.iload 6, 2) := by decide +kernel
theorem dX3_crosses_181 : decode cX3_crosses 181 = .ok (.iload 7, 2) := by decide +kernel
theorem dX3_crosses_183 : decode cX3_crosses 183 = .ok (.iload 8, 2) := by decide +kernel
theorem dX3_crosses_185 : decode cX3_crosses 185 = .ok (.iload 9, 2) := by decide +kernel
theorem dX3_crosses_187 : decode cX3_crosses 187 = .ok (.iload_n 2, 1) := by decide +kernel
theorem dX3_crosses_188 : decode cX3_crosses 188 = .ok (.iload_n 3, 1) := by decide +kernel
theorem dX3_crosses_189 : decode cX3_crosses 189 = .ok (.invokestatic 71, 3) := by decide +kernel
theorem dX3_crosses_192 : decode cX3_crosses 192 = .ok (.ifCond .ne 26, 3) := by decide +kernel
theorem dX3_crosses_195 : decode cX3_crosses 195 = .ok (.iload 11, 2) := by decide +kernel
theorem dX3_crosses_197 : decode cX3_crosses 197 = .ok (.ifCond .ne 25, 3) := by decide +kernel
theorem dX3_crosses_200 : decode cX3_crosses 200 = .ok (.iload 6, 2) := by decide +kernel
theorem dX3_crosses_202 : decode cX3_crosses 202 = .ok (.iload 7, 2) := by decide +kernel
theorem dX3_crosses_204 : decode cX3_crosses 204 = .ok (.iload 8, 2) := by decide +kernel
theorem dX3_crosses_206 : decode cX3_crosses 206 = .ok (.iload 9, 2) := by decide +kernel
theorem dX3_crosses_208 : decode cX3_crosses 208 = .ok (.iload 4, 2) := by decide +kernel
theorem dX3_crosses_210 : decode cX3_crosses 210 = .ok (.iload 5, 2) := by decide +kernel
theorem dX3_crosses_212 : decode cX3_crosses 212 = .ok (.invokestatic 71, 3) := by decide +kernel
theorem dX3_crosses_215 : decode cX3_crosses 215 = .ok (.ifCond .eq 7, 3) := by decide +kernel
theorem dX3_crosses_218 : decode cX3_crosses 218 = .ok (.iconst 1, 1) := by decide +kernel
theorem dX3_crosses_219 : decode cX3_crosses 219 = .ok (.goto 4, 3) := by decide +kernel
theorem dX3_crosses_222 : decode cX3_crosses 222 = .ok (.iconst 0, 1) := by decide +kernel
theorem dX3_crosses_223 : decode cX3_crosses 223 = .ok (.istore 15, 2) := by decide +kernel
theorem dX3_crosses_225 : decode cX3_crosses 225 = .ok (.iload 15, 2) := by decide +kernel
theorem dX3_crosses_227 : decode cX3_crosses 227 = .ok (.ifCond .ne 50, 3) := by decide +kernel
theorem dX3_crosses_230 : decode cX3_crosses 230 = .ok (.iload 14, 2) := by decide +kernel
theorem dX3_crosses_232 : decode cX3_crosses 232 = .ok (.ifCond .eq 49, 3) := by decide +kernel
theorem dX3_crosses_235 : decode cX3_crosses 235 = .ok (.iload 12, 2) := by decide +kernel
theorem dX3_crosses_237 : decode cX3_crosses 237 = .ok (.ifCond .ne 19, 3) := by decide +kernel
theorem dX3_crosses_240 : decode cX3_crosses 240 = .ok (.iload_n 2, 1) := by decide +kernel
theorem dX3_crosses_241 : decode cX3_crosses 241 = .ok (.iload_n 3, 1) := by decide +kernel
theorem dX3_crosses_242 : decode cX3_crosses 242 = .ok (.iload 4, 2) := by decide +kernel
theorem dX3_crosses_244 : decode cX3_crosses 244 = .ok (.iload 5, 2) := by decide +kernel
theorem dX3_crosses_246 : decode cX3_crosses 246 = .ok (.iload 6, 2) := by decide +kernel
theorem dX3_crosses_248 : decode cX3_crosses 248 = .ok (.iload 7, 2) := by decide +kernel
theorem dX3_crosses_250 : decode cX3_crosses 250 = .ok (.invokestatic 71, 3) := by decide +kernel
theorem dX3_crosses_253 : decode cX3_crosses 253 = .ok (.ifCond .ne 24, 3) := by decide +kernel
theorem dX3_crosses_256 : decode cX3_crosses 256 = .ok (.iload 13, 2) := by decide +kernel
theorem dX3_crosses_258 : decode cX3_crosses 258 = .ok (.ifCond .ne 23, 3) := by decide +kernel
theorem dX3_crosses_261 : decode cX3_crosses 261 = .ok (.iload_n 2, 1) := by decide +kernel
theorem dX3_crosses_262 : decode cX3_crosses 262 = .ok (.iload_n 3, 1) := by decide +kernel
theorem dX3_crosses_263 : decode cX3_crosses 263 = .ok (.iload 4, 2) := by decide +kernel
theorem dX3_crosses_265 : decode cX3_crosses 265 = .ok (.iload 5, 2) := by decide +kernel
theorem dX3_crosses_267 : decode cX3_crosses 267 = .ok (.iload 8, 2) := by decide +kernel
theorem dX3_crosses_269 : decode cX3_crosses 269 = .ok (.iload 9, 2) := by decide +kernel
theorem dX3_crosses_271 : decode cX3_crosses 271 = .ok (.invokestatic 71, 3) := by decide +kernel
theorem dX3_crosses_274 : decode cX3_crosses 274 = .ok (.ifCond .eq 7, 3) := by decide +kernel
theorem dX3_crosses_277 : decode cX3_crosses 277 = .ok (.iconst 1, 1) := by decide +kernel
theorem dX3_crosses_278 : decode cX3_crosses 278 = .ok (.goto 4, 3) := by decide +kernel
theorem dX3_crosses_281 : decode cX3_crosses 281 = .ok (.iconst 0, 1) := by decide +kernel
theorem dX3_crosses_282 : decode cX3_crosses 282 = .ok (.ireturn, 1) := by decide +kernel
set_option maxRecDepth 20000 in
theorem ggX3_givesIn_X3_crosses : GoodIn wsX3_givesIn wsX3_crosses := goodIn_r _ [15, 16, 17, 18, 14, 19, 20, 21, 22, 23, 24, 25, 26, 27, 28, 29, 30, 31, 32, 33, 34, 35, 36, 37, 38, 39] (by decide +kernel) (by decide +kernel)
set_option maxRecDepth 20000 in
theorem gX3_givesIn_X3_crosses : GoodIn wsX3_givesIn (wsV RX3 79 RX3 yX3_crosses wsX3_crosses) := goodIn_app (goodIn_of _ (by decide +kernel)) ggX3_givesIn_X3_crosses
theorem dX3_givesIn_0 : decode cX3_givesIn 0 = .ok (.aload_n 0, 1) := by decide +kernel
theorem dX3_givesIn_1 : decode cX3_givesIn 1 = .ok (.getfield 16, 3) := by decide +kernel
theorem dX3_givesIn_4 : decode cX3_givesIn 4 = .ok (.iconst 3, 1) := by decide +kernel
theorem dX3_givesIn_5 : decode cX3_givesIn 5 = .ok (.iload_n 1, 1) := by decide +kernel
theorem dX3_givesIn_6 : decode cX3_givesIn 6 = .ok (.imul, 1) := by decide +kernel
theorem dX3_givesIn_7 : decode cX3_givesIn 7 = .ok (.iload_n 3, 1) := by decide +kernel
theorem dX3_givesIn_8 : decode cX3_givesIn 8 = .ok (.iadd, 1) := by decide +kernel
theorem dX3_givesIn_9 : decode cX3_givesIn 9 = .ok (.iaload, 1) := by decide +kernel
theorem dX3_givesIn_10 : decode cX3_givesIn 10 = .ok (.istore 4, 2) := by decide +kernel
theorem dX3_givesIn_12 : decode cX3_givesIn 12 = .ok (.iload 4, 2) := by decide +kernel
theorem dX3_givesIn_14 : decode cX3_givesIn 14 = .ok (.ifCond .ne 5, 3) := by decide +kernel
theorem dX3_givesIn_17 : decode cX3_givesIn 17 = .ok (.iconst 0, 1) := by decide +kernel
theorem dX3_givesIn_18 : decode cX3_givesIn 18 = .ok (.ireturn, 1) := by decide +kernel
theorem dX3_givesIn_19 : decode cX3_givesIn 19 = .ok (.aload_n 0, 1) := by decide +kernel
theorem dX3_givesIn_20 : decode cX3_givesIn 20 = .ok (.getfield 7, 3) := by decide +kernel
theorem dX3_givesIn_23 : decode cX3_givesIn 23 = .ok (.iload_n 1, 1) := by decide +kernel
theorem dX3_givesIn_24 : decode cX3_givesIn 24 = .ok (.iaload, 1) := by decide +kernel
theorem dX3_givesIn_25 : decode cX3_givesIn 25 = .ok (.aload_n 0, 1) := by decide +kernel
theorem dX3_givesIn_26 : decode cX3_givesIn 26 = .ok (.getfield 19, 3) := by decide +kernel
theorem dX3_givesIn_29 : decode cX3_givesIn 29 = .ok (.iload_n 2, 1) := by decide +kernel
theorem dX3_givesIn_30 : decode cX3_givesIn 30 = .ok (.iaload, 1) := by decide +kernel
theorem dX3_givesIn_31 : decode cX3_givesIn 31 = .ok (.isub, 1) := by decide +kernel
theorem dX3_givesIn_32 : decode cX3_givesIn 32 = .ok (.i2l, 1) := by decide +kernel
theorem dX3_givesIn_33 : decode cX3_givesIn 33 = .ok (.lstore 5, 2) := by decide +kernel
theorem dX3_givesIn_35 : decode cX3_givesIn 35 = .ok (.aload_n 0, 1) := by decide +kernel
theorem dX3_givesIn_36 : decode cX3_givesIn 36 = .ok (.getfield 13, 3) := by decide +kernel
theorem dX3_givesIn_39 : decode cX3_givesIn 39 = .ok (.iload_n 1, 1) := by decide +kernel
theorem dX3_givesIn_40 : decode cX3_givesIn 40 = .ok (.iaload, 1) := by decide +kernel
theorem dX3_givesIn_41 : decode cX3_givesIn 41 = .ok (.aload_n 0, 1) := by decide +kernel
theorem dX3_givesIn_42 : decode cX3_givesIn 42 = .ok (.getfield 22, 3) := by decide +kernel
theorem dX3_givesIn_45 : decode cX3_givesIn 45 = .ok (.iload_n 2, 1) := by decide +kernel
theorem dX3_givesIn_46 : decode cX3_givesIn 46 = .ok (.iaload, 1) := by decide +kernel
theorem dX3_givesIn_47 : decode cX3_givesIn 47 = .ok (.isub, 1) := by decide +kernel
theorem dX3_givesIn_48 : decode cX3_givesIn 48 = .ok (.i2l, 1) := by decide +kernel
theorem dX3_givesIn_49 : decode cX3_givesIn 49 = .ok (.lstore 7, 2) := by decide +kernel
theorem dX3_givesIn_51 : decode cX3_givesIn 51 = .ok (.lload 5, 2) := by decide +kernel
theorem dX3_givesIn_53 : decode cX3_givesIn 53 = .ok (.lload 5, 2) := by decide +kernel
theorem dX3_givesIn_55 : decode cX3_givesIn 55 = .ok (.lmul, 1) := by decide +kernel
theorem dX3_givesIn_56 : decode cX3_givesIn 56 = .ok (.lload 7, 2) := by decide +kernel
theorem dX3_givesIn_58 : decode cX3_givesIn 58 = .ok (.lload 7, 2) := by decide +kernel
theorem dX3_givesIn_60 : decode cX3_givesIn 60 = .ok (.lmul, 1) := by decide +kernel
theorem dX3_givesIn_61 : decode cX3_givesIn 61 = .ok (.ladd, 1) := by decide +kernel
theorem dX3_givesIn_62 : decode cX3_givesIn 62 = .ok (.lstore 9, 2) := by decide +kernel
theorem dX3_givesIn_64 : decode cX3_givesIn 64 = .ok (.ldc2_w 75, 3) := by decide +kernel
theorem dX3_givesIn_67 : decode cX3_givesIn 67 = .ok (.lstore 11, 2) := by decide +kernel
theorem dX3_givesIn_69 : decode cX3_givesIn 69 = .ok (.lload 9, 2) := by decide +kernel
theorem dX3_givesIn_71 : decode cX3_givesIn 71 = .ok (.lload 11, 2) := by decide +kernel
theorem dX3_givesIn_73 : decode cX3_givesIn 73 = .ok (.lcmp, 1) := by decide +kernel
theorem dX3_givesIn_74 : decode cX3_givesIn 74 = .ok (.ifCond .lt 23, 3) := by decide +kernel
theorem dX3_givesIn_77 : decode cX3_givesIn 77 = .ok (.iload 4, 2) := by decide +kernel
theorem dX3_givesIn_79 : decode cX3_givesIn 79 = .ok (.aload_n 0, 1) := by decide +kernel
theorem dX3_givesIn_80 : decode cX3_givesIn 80 = .ok (.getfield 34, 3) := by decide +kernel
theorem dX3_givesIn_83 : decode cX3_givesIn 83 = .ok (.isub, 1) := by decide +kernel
theorem dX3_givesIn_84 : decode cX3_givesIn 84 = .ok (.istore 4, 2) := by decide +kernel
theorem dX3_givesIn_86 : decode cX3_givesIn 86 = .ok (.ldc2_w 77, 3) := by decide +kernel
theorem dX3_givesIn_89 : decode cX3_givesIn 89 = .ok (.lload 11, 2) := by decide +kernel
theorem dX3_givesIn_91 : decode cX3_givesIn 91 = .ok (.lmul, 1) := by decide +kernel
theorem dX3_givesIn_92 : decode cX3_givesIn 92 = .ok (.lstore 11, 2) := by decide +kernel
theorem dX3_givesIn_94 : decode cX3_givesIn 94 = .ok (.goto (-25), 3) := by decide +kernel
theorem dX3_givesIn_97 : decode cX3_givesIn 97 = .ok (.iconst 0, 1) := by decide +kernel
theorem dX3_givesIn_98 : decode cX3_givesIn 98 = .ok (.istore 11, 2) := by decide +kernel
theorem dX3_givesIn_100 : decode cX3_givesIn 100 = .ok (.iconst 0, 1) := by decide +kernel
theorem dX3_givesIn_101 : decode cX3_givesIn 101 = .ok (.istore 12, 2) := by decide +kernel
theorem dX3_givesIn_103 : decode cX3_givesIn 103 = .ok (.iload 12, 2) := by decide +kernel
theorem dX3_givesIn_105 : decode cX3_givesIn 105 = .ok (.aload_n 0, 1) := by decide +kernel
theorem dX3_givesIn_106 : decode cX3_givesIn 106 = .ok (.getfield 64, 3) := by decide +kernel
theorem dX3_givesIn_109 : decode cX3_givesIn 109 = .ok (.if_icmp .ge 80, 3) := by decide +kernel
theorem dX3_givesIn_112 : decode cX3_givesIn 112 = .ok (.aload_n 0, 1) := by decide +kernel
theorem dX3_givesIn_113 : decode cX3_givesIn 113 = .ok (.getfield 31, 3) := by decide +kernel
theorem dX3_givesIn_116 : decode cX3_givesIn 116 = .ok (.iload 12, 2) := by decide +kernel
theorem dX3_givesIn_118 : decode cX3_givesIn 118 = .ok (.iaload, 1) := by decide +kernel
theorem dX3_givesIn_119 : decode cX3_givesIn 119 = .ok (.iload 11, 2) := by decide +kernel
theorem dX3_givesIn_121 : decode cX3_givesIn 121 = .ok (.if_icmp .le 40, 3) := by decide +kernel
theorem dX3_givesIn_124 : decode cX3_givesIn 124 = .ok (.aload_n 0, 1) := by decide +kernel
theorem dX3_givesIn_125 : decode cX3_givesIn 125 = .ok (.iload 12, 2) := by decide +kernel
theorem dX3_givesIn_127 : decode cX3_givesIn 127 = .ok (.aload_n 0, 1) := by decide +kernel
theorem dX3_givesIn_128 : decode cX3_givesIn 128 = .ok (.getfield 7, 3) := by decide +kernel
theorem dX3_givesIn_131 : decode cX3_givesIn 131 = .ok (.iload_n 1, 1) := by decide +kernel
theorem dX3_givesIn_132 : decode cX3_givesIn 132 = .ok (.iaload, 1) := by decide +kernel
theorem dX3_givesIn_133 : decode cX3_givesIn 133 = .ok (.aload_n 0, 1) := by decide +kernel
theorem dX3_givesIn_134 : decode cX3_givesIn 134 = .ok (.getfield 13, 3) := by decide +kernel
theorem dX3_givesIn_137 : decode cX3_givesIn 137 = .ok (.iload_n 1, 1) := by decide +kernel
theorem dX3_givesIn_138 : decode cX3_givesIn 138 = .ok (.iaload, 1) := by decide +kernel
theorem dX3_givesIn_139 : decode cX3_givesIn 139 = .ok (.aload_n 0, 1) := by decide +kernel
theorem dX3_givesIn_140 : decode cX3_givesIn 140 = .ok (.getfield 19, 3) := by decide +kernel
theorem dX3_givesIn_143 : decode cX3_givesIn 143 = .ok (.iload_n 2, 1) := by decide +kernel
theorem dX3_givesIn_144 : decode cX3_givesIn 144 = .ok (.iaload, 1) := by decide +kernel
theorem dX3_givesIn_145 : decode cX3_givesIn 145 = .ok (.aload_n 0, 1) := by decide +kernel
theorem dX3_givesIn_146 : decode cX3_givesIn 146 = .ok (.getfield 22, 3) := by decide +kernel
theorem dX3_givesIn_149 : decode cX3_givesIn 149 = .ok (.iload_n 2, 1) := by decide +kernel
theorem dX3_givesIn_150 : decode cX3_givesIn 150 = .ok (.iaload, 1) := by decide +kernel
theorem dX3_givesIn_151 : decode cX3_givesIn 151 = .ok (.invokevirtual 79, 3) := by decide +kernel
theorem dX3_givesIn_154 : decode cX3_givesIn 154 = .ok (.ifCond .eq 7, 3) := by decide +kernel
theorem dX3_givesIn_157 : decode cX3_givesIn 157 = .ok (.iconst 1, 1) := by decide +kernel
theorem dX3_givesIn_158 : decode cX3_givesIn 158 = .ok (.goto 4, 3) := by decide +kernel
theorem dX3_givesIn_161 : decode cX3_givesIn 161 = .ok (.iconst 0, 1) := by decide +kernel
theorem dX3_givesIn_162 : decode cX3_givesIn 162 = .ok (.istore 13, 2) := by decide +kernel
theorem dX3_givesIn_164 : decode cX3_givesIn 164 = .ok (.iload 13, 2) := by decide +kernel
theorem dX3_givesIn_166 : decode cX3_givesIn 166 = .ok (.ifCond .eq 13, 3) := by decide +kernel
theorem dX3_givesIn_169 : decode cX3_givesIn 169 = .ok (.aload_n 0, 1) := by decide +kernel
theorem dX3_givesIn_170 : decode cX3_givesIn 170 = .ok (.getfield 31, 3) := by decide +kernel
theorem dX3_givesIn_173 : decode cX3_givesIn 173 = .ok (.iload 12, 2) := by decide +kernel
theorem dX3_givesIn_175 : decode cX3_givesIn 175 = .ok (.iaload, 1) := by decide +kernel
theorem dX3_givesIn_176 : decode cX3_givesIn 176 = .ok (.goto 5, 3) := by decide +kernel
theorem dX3_givesIn_179 : decode cX3_givesIn 179 = .ok (.iload 11, 2) := by decide +kernel
theorem dX3_givesIn_181 : decode cX3_givesIn 181 = .ok (.istore 11, 2) := by decide +kernel
theorem dX3_givesIn_183 : decode cX3_givesIn 183 = .ok (.iinc 12 1, 3) := by decide +kernel
theorem dX3_givesIn_186 : decode cX3_givesIn 186 = .ok (.goto (-83), 3) := by decide +kernel
theorem dX3_givesIn_189 : decode cX3_givesIn 189 = .ok (.iload 4, 2) := by decide +kernel
theorem dX3_givesIn_191 : decode cX3_givesIn 191 = .ok (.iload 11, 2) := by decide +kernel
theorem dX3_givesIn_193 : decode cX3_givesIn 193 = .ok (.isub, 1) := by decide +kernel
theorem dX3_givesIn_194 : decode cX3_givesIn 194 = .ok (.istore 4, 2) := by decide +kernel
theorem dX3_givesIn_196 : decode cX3_givesIn 196 = .ok (.iload 4, 2) := by decide +kernel
theorem dX3_givesIn_198 : decode cX3_givesIn 198 = .ok (.ifCond .ge 7, 3) := by decide +kernel
theorem dX3_givesIn_201 : decode cX3_givesIn 201 = .ok (.iconst 0, 1) := by decide +kernel
theorem dX3_givesIn_202 : decode cX3_givesIn 202 = .ok (.goto 5, 3) := by decide +kernel
theorem dX3_givesIn_205 : decode cX3_givesIn 205 = .ok (.iload 4, 2) := by decide +kernel
theorem dX3_givesIn_207 : decode cX3_givesIn 207 = .ok (.ireturn, 1) := by decide +kernel
theorem dX3_join_0 : decode cX3_join 0 = .ok (.iload_n 0, 1) := by decide +kernel
theorem dX3_join_1 : decode cX3_join 1 = .ok (.iload_n 1, 1) := by decide +kernel
theorem dX3_join_2 : decode cX3_join 2 = .ok (.if_icmp .le 7, 3) := by decide +kernel
theorem dX3_join_5 : decode cX3_join 5 = .ok (.iload_n 0, 1) := by decide +kernel
theorem dX3_join_6 : decode cX3_join 6 = .ok (.goto 4, 3) := by decide +kernel
theorem dX3_join_9 : decode cX3_join 9 = .ok (.iload_n 1, 1) := by decide +kernel
theorem dX3_join_10 : decode cX3_join 10 = .ok (.istore_n 2, 1) := by decide +kernel
theorem dX3_join_11 : decode cX3_join 11 = .ok (.iload_n 0, 1) := by decide +kernel
theorem dX3_join_12 : decode cX3_join 12 = .ok (.iload_n 1, 1) := by decide +kernel
theorem dX3_join_13 : decode cX3_join 13 = .ok (.if_icmp .le 9, 3) := by decide +kernel
theorem dX3_join_16 : decode cX3_join 16 = .ok (.iload_n 0, 1) := by decide +kernel
theorem dX3_join_17 : decode cX3_join 17 = .ok (.iload_n 1, 1) := by decide +kernel
theorem dX3_join_18 : decode cX3_join 18 = .ok (.isub, 1) := by decide +kernel
theorem dX3_join_19 : decode cX3_join 19 = .ok (.goto 6, 3) := by decide +kernel
theorem dX3_join_22 : decode cX3_join 22 = .ok (.iload_n 1, 1) := by decide +kernel
theorem dX3_join_23 : decode cX3_join 23 = .ok (.iload_n 0, 1) := by decide +kernel
theorem dX3_join_24 : decode cX3_join 24 = .ok (.isub, 1) := by decide +kernel
theorem dX3_join_25 : decode cX3_join 25 = .ok (.istore_n 3, 1) := by decide +kernel
theorem dX3_join_26 : decode cX3_join 26 = .ok (.iload_n 2, 1) := by decide +kernel
theorem dX3_join_27 : decode cX3_join 27 = .ok (.iload_n 3, 1) := by decide +kernel
theorem dX3_join_28 : decode cX3_join 28 = .ok (.bipush 15, 2) := by decide +kernel
theorem dX3_join_30 : decode cX3_join 30 = .ok (.if_icmp .ge 8, 3) := by decide +kernel
theorem dX3_join_33 : decode cX3_join 33 = .ok (.bipush 30, 2) := by decide +kernel
theorem dX3_join_35 : decode cX3_join 35 = .ok (.goto 26, 3) := by decide +kernel
theorem dX3_join_38 : decode cX3_join 38 = .ok (.iload_n 3, 1) := by decide +kernel
theorem dX3_join_39 : decode cX3_join 39 = .ok (.bipush 35, 2) := by decide +kernel
theorem dX3_join_41 : decode cX3_join 41 = .ok (.if_icmp .ge 8, 3) := by decide +kernel
theorem dX3_join_44 : decode cX3_join 44 = .ok (.bipush 20, 2) := by decide +kernel
theorem dX3_join_46 : decode cX3_join 46 = .ok (.goto 15, 3) := by decide +kernel
theorem dX3_join_49 : decode cX3_join 49 = .ok (.iload_n 3, 1) := by decide +kernel
theorem dX3_join_50 : decode cX3_join 50 = .ok (.bipush 95, 2) := by decide +kernel
theorem dX3_join_52 : decode cX3_join 52 = .ok (.if_icmp .ge 8, 3) := by decide +kernel
theorem dX3_join_55 : decode cX3_join 55 = .ok (.bipush 10, 2) := by decide +kernel
theorem dX3_join_57 : decode cX3_join 57 = .ok (.goto 4, 3) := by decide +kernel
theorem dX3_join_60 : decode cX3_join 60 = .ok (.iconst 0, 1) := by decide +kernel
theorem dX3_join_61 : decode cX3_join 61 = .ok (.iadd, 1) := by decide +kernel
theorem dX3_join_62 : decode cX3_join 62 = .ok (.ireturn, 1) := by decide +kernel
set_option maxRecDepth 20000 in
theorem ggX3_levelIn_X3_givesIn : GoodIn wsX3_levelIn wsX3_givesIn := goodIn_r _ [6, 7, 8, 9, 10, 11, 12, 13, 14, 15, 16, 17, 18, 19, 5, 20, 21, 22, 23, 24, 25, 26, 27, 31, 32, 33, 34, 35, 36, 37, 38, 39, 40, 41, 42, 43, 44, 45, 46, 47] (by decide +kernel) (by decide +kernel)
set_option maxRecDepth 20000 in
theorem gX3_levelIn_X3_givesIn : GoodIn wsX3_levelIn (wsV RX3 83 RX3 yX3_givesIn wsX3_givesIn) := goodIn_app (goodIn_of _ (by decide +kernel)) ggX3_levelIn_X3_givesIn
set_option maxRecDepth 20000 in
theorem ggX3_levelIn_X3_join : GoodIn wsX3_levelIn wsX3_join := goodIn_r _ [30] (by decide +kernel) (by decide +kernel)
set_option maxRecDepth 20000 in
theorem gX3_levelIn_X3_join : GoodIn wsX3_levelIn (va_wsS RX3 87 yX3_join wsX3_join) := goodIn_app (goodIn_of _ (by decide +kernel)) ggX3_levelIn_X3_join
theorem dX3_levelIn_0 : decode cX3_levelIn 0 = .ok (.iconst 0, 1) := by decide +kernel
theorem dX3_levelIn_1 : decode cX3_levelIn 1 = .ok (.istore_n 3, 1) := by decide +kernel
theorem dX3_levelIn_2 : decode cX3_levelIn 2 = .ok (.iconst 0, 1) := by decide +kernel
theorem dX3_levelIn_3 : decode cX3_levelIn 3 = .ok (.istore 4, 2) := by decide +kernel
theorem dX3_levelIn_5 : decode cX3_levelIn 5 = .ok (.iload 4, 2) := by decide +kernel
theorem dX3_levelIn_7 : decode cX3_levelIn 7 = .ok (.aload_n 0, 1) := by decide +kernel
theorem dX3_levelIn_8 : decode cX3_levelIn 8 = .ok (.getfield 58, 3) := by decide +kernel
theorem dX3_levelIn_11 : decode cX3_levelIn 11 = .ok (.if_icmp .ge 44, 3) := by decide +kernel
theorem dX3_levelIn_14 : decode cX3_levelIn 14 = .ok (.aload_n 0, 1) := by decide +kernel
theorem dX3_levelIn_15 : decode cX3_levelIn 15 = .ok (.iload 4, 2) := by decide +kernel
theorem dX3_levelIn_17 : decode cX3_levelIn 17 = .ok (.iload_n 1, 1) := by decide +kernel
theorem dX3_levelIn_18 : decode cX3_levelIn 18 = .ok (.iload_n 2, 1) := by decide +kernel
theorem dX3_levelIn_19 : decode cX3_levelIn 19 = .ok (.invokevirtual 83, 3) := by decide +kernel
theorem dX3_levelIn_22 : decode cX3_levelIn 22 = .ok (.istore 5, 2) := by decide +kernel
theorem dX3_levelIn_24 : decode cX3_levelIn 24 = .ok (.iload 5, 2) := by decide +kernel
theorem dX3_levelIn_26 : decode cX3_levelIn 26 = .ok (.ifCond .ne 7, 3) := by decide +kernel
theorem dX3_levelIn_29 : decode cX3_levelIn 29 = .ok (.iload_n 3, 1) := by decide +kernel
theorem dX3_levelIn_30 : decode cX3_levelIn 30 = .ok (.goto 18, 3) := by decide +kernel
theorem dX3_levelIn_33 : decode cX3_levelIn 33 = .ok (.iload_n 3, 1) := by decide +kernel
theorem dX3_levelIn_34 : decode cX3_levelIn 34 = .ok (.ifCond .ne 8, 3) := by decide +kernel
theorem dX3_levelIn_37 : decode cX3_levelIn 37 = .ok (.iload 5, 2) := by decide +kernel
theorem dX3_levelIn_39 : decode cX3_levelIn 39 = .ok (.goto 9, 3) := by decide +kernel
theorem dX3_levelIn_42 : decode cX3_levelIn 42 = .ok (.iload_n 3, 1) := by decide +kernel
theorem dX3_levelIn_43 : decode cX3_levelIn 43 = .ok (.iload 5, 2) := by decide +kernel
theorem dX3_levelIn_45 : decode cX3_levelIn 45 = .ok (.invokestatic 87, 3) := by decide +kernel
theorem dX3_levelIn_48 : decode cX3_levelIn 48 = .ok (.istore_n 3, 1) := by decide +kernel
theorem dX3_levelIn_49 : decode cX3_levelIn 49 = .ok (.iinc 4 1, 3) := by decide +kernel
theorem dX3_levelIn_52 : decode cX3_levelIn 52 = .ok (.goto (-47), 3) := by decide +kernel
theorem dX3_levelIn_55 : decode cX3_levelIn 55 = .ok (.iload_n 3, 1) := by decide +kernel
theorem dX3_levelIn_56 : decode cX3_levelIn 56 = .ok (.ireturn, 1) := by decide +kernel
set_option maxRecDepth 20000 in
theorem ggX3_allDay_X3_levelIn : GoodIn wsX3_allDay wsX3_levelIn := goodIn_r _ [6, 7, 8, 9, 10, 5, 11, 12, 13, 14, 15, 16, 17, 18, 19, 20, 21, 22, 23, 24, 25, 26, 27, 28, 29, 30, 31, 32, 33, 34, 35, 36, 37, 38, 39, 40, 41, 42, 43, 44, 45, 46, 47, 48, 49, 50, 51, 52] (by decide +kernel) (by decide +kernel)
set_option maxRecDepth 20000 in
theorem gX3_allDay_X3_levelIn : GoodIn wsX3_allDay (wsV RX3 91 RX3 yX3_levelIn wsX3_levelIn) := goodIn_app (goodIn_of _ (by decide +kernel)) ggX3_allDay_X3_levelIn
theorem dX3_allDay_0 : decode cX3_allDay 0 = .ok (.iconst 0, 1) := by decide +kernel
theorem dX3_allDay_1 : decode cX3_allDay 1 = .ok (.istore_n 2, 1) := by decide +kernel
theorem dX3_allDay_2 : decode cX3_allDay 2 = .ok (.iconst 0, 1) := by decide +kernel
theorem dX3_allDay_3 : decode cX3_allDay 3 = .ok (.istore_n 3, 1) := by decide +kernel
theorem dX3_allDay_4 : decode cX3_allDay 4 = .ok (.iload_n 3, 1) := by decide +kernel
theorem dX3_allDay_5 : decode cX3_allDay 5 = .ok (.iconst 3, 1) := by decide +kernel
theorem dX3_allDay_6 : decode cX3_allDay 6 = .ok (.if_icmp .ge 49, 3) := by decide +kernel
theorem dX3_allDay_9 : decode cX3_allDay 9 = .ok (.aload_n 0, 1) := by decide +kernel
theorem dX3_allDay_10 : decode cX3_allDay 10 = .ok (.iload_n 1, 1) := by decide +kernel
theorem dX3_allDay_11 : decode cX3_allDay 11 = .ok (.iload_n 3, 1) := by decide +kernel
theorem dX3_allDay_12 : decode cX3_allDay 12 = .ok (.invokevirtual 91, 3) := by decide +kernel
theorem dX3_allDay_15 : decode cX3_allDay 15 = .ok (.istore 4, 2) := by decide +kernel
theorem dX3_allDay_17 : decode cX3_allDay 17 = .ok (.iload 4, 2) := by decide +kernel
theorem dX3_allDay_19 : decode cX3_allDay 19 = .ok (.ifCond .le 28, 3) := by decide +kernel
theorem dX3_allDay_22 : decode cX3_allDay 22 = .ok (.iload 4, 2) := by decide +kernel
theorem dX3_allDay_24 : decode cX3_allDay 24 = .ok (.aload_n 0, 1) := by decide +kernel
theorem dX3_allDay_25 : decode cX3_allDay 25 = .ok (.getfield 38, 3) := by decide +kernel
theorem dX3_allDay_28 : decode cX3_allDay 28 = .ok (.iload_n 3, 1) := by decide +kernel
theorem dX3_allDay_29 : decode cX3_allDay 29 = .ok (.iaload, 1) := by decide +kernel
theorem dX3_allDay_30 : decode cX3_allDay 30 = .ok (.iadd, 1) := by decide +kernel
theorem dX3_allDay_31 : decode cX3_allDay 31 = .ok (.iload_n 2, 1) := by decide +kernel
theorem dX3_allDay_32 : decode cX3_allDay 32 = .ok (.if_icmp .le 15, 3) := by decide +kernel
theorem dX3_allDay_35 : decode cX3_allDay 35 = .ok (.iload 4, 2) := by decide +kernel
theorem dX3_allDay_37 : decode cX3_allDay 37 = .ok (.aload_n 0, 1) := by decide +kernel
theorem dX3_allDay_38 : decode cX3_allDay 38 = .ok (.getfield 38, 3) := by decide +kernel
theorem dX3_allDay_41 : decode cX3_allDay 41 = .ok (.iload_n 3, 1) := by decide +kernel
theorem dX3_allDay_42 : decode cX3_allDay 42 = .ok (.iaload, 1) := by decide +kernel
theorem dX3_allDay_43 : decode cX3_allDay 43 = .ok (.iadd, 1) := by decide +kernel
theorem dX3_allDay_44 : decode cX3_allDay 44 = .ok (.goto 4, 3) := by decide +kernel
theorem dX3_allDay_47 : decode cX3_allDay 47 = .ok (.iload_n 2, 1) := by decide +kernel
theorem dX3_allDay_48 : decode cX3_allDay 48 = .ok (.istore_n 2, 1) := by decide +kernel
theorem dX3_allDay_49 : decode cX3_allDay 49 = .ok (.iinc 3 1, 3) := by decide +kernel
theorem dX3_allDay_52 : decode cX3_allDay 52 = .ok (.goto (-48), 3) := by decide +kernel
theorem dX3_allDay_55 : decode cX3_allDay 55 = .ok (.iload_n 2, 1) := by decide +kernel
theorem dX3_allDay_56 : decode cX3_allDay 56 = .ok (.ireturn, 1) := by decide +kernel
theorem dX3_isHouse_0 : decode cX3_isHouse 0 = .ok (.iload_n 1, 1) := by decide +kernel
theorem dX3_isHouse_1 : decode cX3_isHouse 1 = .ok (.ifCond .lt 15, 3) := by decide +kernel
theorem dX3_isHouse_4 : decode cX3_isHouse 4 = .ok (.iload_n 1, 1) := by decide +kernel
theorem dX3_isHouse_5 : decode cX3_isHouse 5 = .ok (.aload_n 0, 1) := by decide +kernel
theorem dX3_isHouse_6 : decode cX3_isHouse 6 = .ok (.getfield 61, 3) := by decide +kernel
theorem dX3_isHouse_9 : decode cX3_isHouse 9 = .ok (.if_icmp .ge 7, 3) := by decide +kernel
theorem dX3_isHouse_12 : decode cX3_isHouse 12 = .ok (.iconst 1, 1) := by decide +kernel
theorem dX3_isHouse_13 : decode cX3_isHouse 13 = .ok (.goto 4, 3) := by decide +kernel
theorem dX3_isHouse_16 : decode cX3_isHouse 16 = .ok (.iconst 0, 1) := by decide +kernel
theorem dX3_isHouse_17 : decode cX3_isHouse 17 = .ok (.ireturn, 1) := by decide +kernel
set_option maxRecDepth 20000 in
theorem ggX3_gives_X3_within : GoodIn wsX3_gives wsX3_within := goodIn_r _ [5] (by decide +kernel) (by decide +kernel)
set_option maxRecDepth 20000 in
theorem gX3_gives_X3_within : GoodIn wsX3_gives (va_wsS RX3 50 yX3_within wsX3_within) := goodIn_app (goodIn_of _ (by decide +kernel)) ggX3_gives_X3_within
set_option maxRecDepth 20000 in
theorem ggX3_gives_X3_isHouse : GoodIn wsX3_gives wsX3_isHouse := goodIn_r _ [9, 10, 36, 37, 38, 39, 40, 41, 42, 43, 44, 45, 46, 47, 48, 49, 50, 51, 52] (by decide +kernel) (by decide +kernel)
set_option maxRecDepth 20000 in
theorem gX3_gives_X3_isHouse : GoodIn wsX3_gives (wsV RX3 94 RX3 yX3_isHouse wsX3_isHouse) := goodIn_app (goodIn_of _ (by decide +kernel)) ggX3_gives_X3_isHouse
set_option maxRecDepth 20000 in
theorem ggX3_gives_X3_givesIn : GoodIn wsX3_gives wsX3_givesIn := goodIn_r _ [14, 15, 16, 17, 18, 19, 20, 21, 22, 23, 24, 25, 26, 27, 4, 28, 29, 30, 31, 32, 33, 34, 35, 36, 37, 38, 39, 40, 41, 42, 43, 44, 45, 46, 47, 48, 49, 50, 51, 52] (by decide +kernel) (by decide +kernel)
set_option maxRecDepth 20000 in
theorem gX3_gives_X3_givesIn : GoodIn wsX3_gives (wsV RX3 83 RX3 yX3_givesIn wsX3_givesIn) := goodIn_app (goodIn_of _ (by decide +kernel)) ggX3_gives_X3_givesIn
theorem dX3_gives_0 : decode cX3_gives 0 = .ok (.iload_n 1, 1) := by decide +kernel
theorem dX3_gives_1 : decode cX3_gives 1 = .ok (.iconst 0, 1) := by decide +kernel
theorem dX3_gives_2 : decode cX3_gives 2 = .ok (.aload_n 0, 1) := by decide +kernel
theorem dX3_gives_3 : decode cX3_gives 3 = .ok (.getfield 58, 3) := by decide +kernel
theorem dX3_gives_6 : decode cX3_gives 6 = .ok (.iconst 1, 1) := by decide +kernel
theorem dX3_gives_7 : decode cX3_gives 7 = .ok (.isub, 1) := by decide +kernel
theorem dX3_gives_8 : decode cX3_gives 8 = .ok (.invokestatic 50, 3) := by decide +kernel
theorem dX3_gives_11 : decode cX3_gives 11 = .ok (.ifCond .eq 30, 3) := by decide +kernel
theorem dX3_gives_14 : decode cX3_gives 14 = .ok (.aload_n 0, 1) := by decide +kernel
theorem dX3_gives_15 : decode cX3_gives 15 = .ok (.iload_n 2, 1) := by decide +kernel
theorem dX3_gives_16 : decode cX3_gives 16 = .ok (.invokevirtual 94, 3) := by decide +kernel
theorem dX3_gives_19 : decode cX3_gives 19 = .ok (.ifCond .eq 22, 3) := by decide +kernel
theorem dX3_gives_22 : decode cX3_gives 22 = .ok (.iload_n 3, 1) := by decide +kernel
theorem dX3_gives_23 : decode cX3_gives 23 = .ok (.iconst 0, 1) := by decide +kernel
theorem dX3_gives_24 : decode cX3_gives 24 = .ok (.iconst 2, 1) := by decide +kernel
theorem dX3_gives_25 : decode cX3_gives 25 = .ok (.invokestatic 50, 3) := by decide +kernel
theorem dX3_gives_28 : decode cX3_gives 28 = .ok (.ifCond .eq 13, 3) := by decide +kernel
theorem dX3_gives_31 : decode cX3_gives 31 = .ok (.aload_n 0, 1) := by decide +kernel
theorem dX3_gives_32 : decode cX3_gives 32 = .ok (.iload_n 1, 1) := by decide +kernel
theorem dX3_gives_33 : decode cX3_gives 33 = .ok (.iload_n 2, 1) := by decide +kernel
theorem dX3_gives_34 : decode cX3_gives 34 = .ok (.iload_n 3, 1) := by decide +kernel
theorem dX3_gives_35 : decode cX3_gives 35 = .ok (.invokevirtual 83, 3) := by decide +kernel
theorem dX3_gives_38 : decode cX3_gives 38 = .ok (.goto 4, 3) := by decide +kernel
theorem dX3_gives_41 : decode cX3_gives 41 = .ok (.iconst (-1), 1) := by decide +kernel
theorem dX3_gives_42 : decode cX3_gives 42 = .ok (.ireturn, 1) := by decide +kernel
set_option maxRecDepth 20000 in
theorem ggX3_level_X3_isHouse : GoodIn wsX3_level wsX3_isHouse := goodIn_r _ [5, 6, 48, 49, 50, 51, 52, 53, 54, 55, 56, 57, 58, 59, 60, 61, 62, 63, 64] (by decide +kernel) (by decide +kernel)
set_option maxRecDepth 20000 in
theorem gX3_level_X3_isHouse : GoodIn wsX3_level (wsV RX3 94 RX3 yX3_isHouse wsX3_isHouse) := goodIn_app (goodIn_of _ (by decide +kernel)) ggX3_level_X3_isHouse
set_option maxRecDepth 20000 in
theorem ggX3_level_X3_within : GoodIn wsX3_level wsX3_within := goodIn_r _ [9] (by decide +kernel) (by decide +kernel)
set_option maxRecDepth 20000 in
theorem gX3_level_X3_within : GoodIn wsX3_level (va_wsS RX3 50 yX3_within wsX3_within) := goodIn_app (goodIn_of _ (by decide +kernel)) ggX3_level_X3_within
set_option maxRecDepth 20000 in
theorem ggX3_level_X3_allDay : GoodIn wsX3_level wsX3_allDay := goodIn_r _ [13, 14, 15, 16, 17, 4, 18, 19, 20, 21, 22, 23, 24, 25, 26, 27, 28, 29, 30, 31, 32, 33, 34, 35, 36, 37, 38, 39, 40, 41, 42, 43, 44, 45, 46, 47, 48, 49, 50, 51, 52, 53, 54, 55, 56, 57, 58, 59, 60, 61, 62, 63, 64] (by decide +kernel) (by decide +kernel)
set_option maxRecDepth 20000 in
theorem gX3_level_X3_allDay : GoodIn wsX3_level (wsV RX3 98 RX3 yX3_allDay wsX3_allDay) := goodIn_app (goodIn_of _ (by decide +kernel)) ggX3_level_X3_allDay
set_option maxRecDepth 20000 in
theorem ggX3_level_X3_levelIn : GoodIn wsX3_level wsX3_levelIn := goodIn_r _ [18, 19, 20, 21, 22, 4, 23, 24, 25, 26, 27, 28, 29, 30, 31, 32, 33, 34, 35, 36, 37, 38, 39, 40, 41, 42, 43, 44, 45, 46, 47, 48, 49, 50, 51, 52, 53, 54, 55, 56, 57, 58, 59, 60, 61, 62, 63, 64] (by decide +kernel) (by decide +kernel)
set_option maxRecDepth 20000 in
theorem gX3_level_X3_levelIn : GoodIn wsX3_level (wsV RX3 91 RX3 yX3_levelIn wsX3_levelIn) := goodIn_app (goodIn_of _ (by decide +kernel)) ggX3_level_X3_levelIn
theorem dX3_level_0 : decode cX3_level 0 = .ok (.aload_n 0, 1) := by decide +kernel
theorem dX3_level_1 : decode cX3_level 1 = .ok (.iload_n 1, 1) := by decide +kernel
theorem dX3_level_2 : decode cX3_level 2 = .ok (.invokevirtual 94, 3) := by decide +kernel
theorem dX3_level_5 : decode cX3_level 5 = .ok (.ifCond .eq 12, 3) := by decide +kernel
theorem dX3_level_8 : decode cX3_level 8 = .ok (.iload_n 2, 1) := by decide +kernel
theorem dX3_level_9 : decode cX3_level 9 = .ok (.iconst 0, 1) := by decide +kernel
theorem dX3_level_10 : decode cX3_level 10 = .ok (.iconst 3, 1) := by decide +kernel
theorem dX3_level_11 : decode cX3_level 11 = .ok (.invokestatic 50, 3) := by decide +kernel
theorem dX3_level_14 : decode cX3_level 14 = .ok (.ifCond .ne 5, 3) := by decide +kernel
theorem dX3_level_17 : decode cX3_level 17 = .ok (.iconst (-1), 1) := by decide +kernel
theorem dX3_level_18 : decode cX3_level 18 = .ok (.ireturn, 1) := by decide +kernel
theorem dX3_level_19 : decode cX3_level 19 = .ok (.iload_n 2, 1) := by decide +kernel
theorem dX3_level_20 : decode cX3_level 20 = .ok (.iconst 3, 1) := by decide +kernel
theorem dX3_level_21 : decode cX3_level 21 = .ok (.if_icmp .ne 11, 3) := by decide +kernel
theorem dX3_level_24 : decode cX3_level 24 = .ok (.aload_n 0, 1) := by decide +kernel
theorem dX3_level_25 : decode cX3_level 25 = .ok (.iload_n 1, 1) := by decide +kernel
theorem dX3_level_26 : decode cX3_level 26 = .ok (.invokevirtual 98, 3) := by decide +kernel
theorem dX3_level_29 : decode cX3_level 29 = .ok (.goto 9, 3) := by decide +kernel
theorem dX3_level_32 : decode cX3_level 32 = .ok (.aload_n 0, 1) := by decide +kernel
theorem dX3_level_33 : decode cX3_level 33 = .ok (.iload_n 1, 1) := by decide +kernel
theorem dX3_level_34 : decode cX3_level 34 = .ok (.iload_n 2, 1) := by decide +kernel
theorem dX3_level_35 : decode cX3_level 35 = .ok (.invokevirtual 91, 3) := by decide +kernel
theorem dX3_level_38 : decode cX3_level 38 = .ok (.ireturn, 1) := by decide +kernel
set_option maxRecDepth 20000 in
theorem ggX3_people_X3_allDay : GoodIn wsX3_people wsX3_allDay := goodIn_r _ [7, 8, 9, 10, 11, 6, 12, 13, 14, 15, 16, 17, 18, 19, 20, 21, 22, 23, 24, 25, 26, 27, 28, 29, 30, 31, 32, 33, 34, 35, 36, 37, 38, 39, 40, 41, 42, 43, 44, 45, 46, 47, 48, 49, 50, 51, 52, 53, 54, 55, 56, 57, 58] (by decide +kernel) (by decide +kernel)
set_option maxRecDepth 20000 in
theorem gX3_people_X3_allDay : GoodIn wsX3_people (wsV RX3 98 RX3 yX3_allDay wsX3_allDay) := goodIn_app (goodIn_of _ (by decide +kernel)) ggX3_people_X3_allDay
theorem dX3_people_0 : decode cX3_people 0 = .ok (.iconst 0, 1) := by decide +kernel
theorem dX3_people_1 : decode cX3_people 1 = .ok (.istore_n 2, 1) := by decide +kernel
theorem dX3_people_2 : decode cX3_people 2 = .ok (.iconst 0, 1) := by decide +kernel
theorem dX3_people_3 : decode cX3_people 3 = .ok (.istore_n 3, 1) := by decide +kernel
theorem dX3_people_4 : decode cX3_people 4 = .ok (.iload_n 3, 1) := by decide +kernel
theorem dX3_people_5 : decode cX3_people 5 = .ok (.aload_n 0, 1) := by decide +kernel
theorem dX3_people_6 : decode cX3_people 6 = .ok (.getfield 61, 3) := by decide +kernel
theorem dX3_people_9 : decode cX3_people 9 = .ok (.if_icmp .ge 31, 3) := by decide +kernel
theorem dX3_people_12 : decode cX3_people 12 = .ok (.iload_n 2, 1) := by decide +kernel
theorem dX3_people_13 : decode cX3_people 13 = .ok (.aload_n 0, 1) := by decide +kernel
theorem dX3_people_14 : decode cX3_people 14 = .ok (.iload_n 3, 1) := by decide +kernel
theorem dX3_people_15 : decode cX3_people 15 = .ok (.invokevirtual 98, 3) := by decide +kernel
theorem dX3_people_18 : decode cX3_people 18 = .ok (.iload_n 1, 1) := by decide +kernel
theorem dX3_people_19 : decode cX3_people 19 = .ok (.if_icmp .le 12, 3) := by decide +kernel
theorem dX3_people_22 : decode cX3_people 22 = .ok (.aload_n 0, 1) := by decide +kernel
theorem dX3_people_23 : decode cX3_people 23 = .ok (.getfield 25, 3) := by decide +kernel
theorem dX3_people_26 : decode cX3_people 26 = .ok (.iload_n 3, 1) := by decide +kernel
theorem dX3_people_27 : decode cX3_people 27 = .ok (.iaload, 1) := by decide +kernel
theorem dX3_people_28 : decode cX3_people 28 = .ok (.goto 4, 3) := by decide +kernel
theorem dX3_people_31 : decode cX3_people 31 = .ok (.iconst 0, 1) := by decide +kernel
theorem dX3_people_32 : decode cX3_people 32 = .ok (.iadd, 1) := by decide +kernel
theorem dX3_people_33 : decode cX3_people 33 = .ok (.istore_n 2, 1) := by decide +kernel
theorem dX3_people_34 : decode cX3_people 34 = .ok (.iinc 3 1, 3) := by decide +kernel
theorem dX3_people_37 : decode cX3_people 37 = .ok (.goto (-33), 3) := by decide +kernel
theorem dX3_people_40 : decode cX3_people 40 = .ok (.iload_n 2, 1) := by decide +kernel
theorem dX3_people_41 : decode cX3_people 41 = .ok (.ireturn, 1) := by decide +kernel
set_option maxRecDepth 20000 in
theorem ggX3_loudest_X3_isHouse : GoodIn wsX3_loudest wsX3_isHouse := goodIn_r _ [6, 7, 36, 37, 38, 39, 40, 41, 42, 43, 44, 45, 46, 47, 48, 49, 50, 51, 52] (by decide +kernel) (by decide +kernel)
set_option maxRecDepth 20000 in
theorem gX3_loudest_X3_isHouse : GoodIn wsX3_loudest (wsV RX3 94 RX3 yX3_isHouse wsX3_isHouse) := goodIn_app (goodIn_of _ (by decide +kernel)) ggX3_loudest_X3_isHouse
set_option maxRecDepth 20000 in
theorem ggX3_loudest_X3_within : GoodIn wsX3_loudest wsX3_within := goodIn_r _ [10] (by decide +kernel) (by decide +kernel)
set_option maxRecDepth 20000 in
theorem gX3_loudest_X3_within : GoodIn wsX3_loudest (va_wsS RX3 50 yX3_within wsX3_within) := goodIn_app (goodIn_of _ (by decide +kernel)) ggX3_loudest_X3_within
set_option maxRecDepth 20000 in
theorem ggX3_loudest_X3_givesIn : GoodIn wsX3_loudest wsX3_givesIn := goodIn_r _ [14, 15, 16, 17, 18, 19, 20, 21, 22, 23, 24, 25, 26, 27, 5, 28, 29, 30, 31, 32, 33, 34, 35, 36, 37, 38, 39, 40, 41, 42, 43, 44, 45, 46, 47, 48, 49, 50, 51, 52] (by decide +kernel) (by decide +kernel)
set_option maxRecDepth 20000 in
theorem gX3_loudest_X3_givesIn : GoodIn wsX3_loudest (wsV RX3 83 RX3 yX3_givesIn wsX3_givesIn) := goodIn_app (goodIn_of _ (by decide +kernel)) ggX3_loudest_X3_givesIn
theorem dX3_loudest_0 : decode cX3_loudest 0 = .ok (.iconst (-1), 1) := by decide +kernel
theorem dX3_loudest_1 : decode cX3_loudest 1 = .ok (.istore_n 3, 1) := by decide +kernel
theorem dX3_loudest_2 : decode cX3_loudest 2 = .ok (.iconst 0, 1) := by decide +kernel
theorem dX3_loudest_3 : decode cX3_loudest 3 = .ok (.istore 4, 2) := by decide +kernel
theorem dX3_loudest_5 : decode cX3_loudest 5 = .ok (.iconst 0, 1) := by decide +kernel
theorem dX3_loudest_6 : decode cX3_loudest 6 = .ok (.istore 5, 2) := by decide +kernel
theorem dX3_loudest_8 : decode cX3_loudest 8 = .ok (.iload 5, 2) := by decide +kernel
theorem dX3_loudest_10 : decode cX3_loudest 10 = .ok (.aload_n 0, 1) := by decide +kernel
theorem dX3_loudest_11 : decode cX3_loudest 11 = .ok (.getfield 58, 3) := by decide +kernel
theorem dX3_loudest_14 : decode cX3_loudest 14 = .ok (.if_icmp .ge 66, 3) := by decide +kernel
theorem dX3_loudest_17 : decode cX3_loudest 17 = .ok (.aload_n 0, 1) := by decide +kernel
theorem dX3_loudest_18 : decode cX3_loudest 18 = .ok (.iload_n 1, 1) := by decide +kernel
theorem dX3_loudest_19 : decode cX3_loudest 19 = .ok (.invokevirtual 94, 3) := by decide +kernel
theorem dX3_loudest_22 : decode cX3_loudest 22 = .ok (.ifCond .eq 58, 3) := by decide +kernel
theorem dX3_loudest_25 : decode cX3_loudest 25 = .ok (.iload_n 2, 1) := by decide +kernel
theorem dX3_loudest_26 : decode cX3_loudest 26 = .ok (.iconst 0, 1) := by decide +kernel
theorem dX3_loudest_27 : decode cX3_loudest 27 = .ok (.iconst 2, 1) := by decide +kernel
theorem dX3_loudest_28 : decode cX3_loudest 28 = .ok (.invokestatic 50, 3) := by decide +kernel
theorem dX3_loudest_31 : decode cX3_loudest 31 = .ok (.ifCond .eq 49, 3) := by decide +kernel
theorem dX3_loudest_34 : decode cX3_loudest 34 = .ok (.aload_n 0, 1) := by decide +kernel
theorem dX3_loudest_35 : decode cX3_loudest 35 = .ok (.iload 5, 2) := by decide +kernel
theorem dX3_loudest_37 : decode cX3_loudest 37 = .ok (.iload_n 1, 1) := by decide +kernel
theorem dX3_loudest_38 : decode cX3_loudest 38 = .ok (.iload_n 2, 1) := by decide +kernel
theorem dX3_loudest_39 : decode cX3_loudest 39 = .ok (.invokevirtual 83, 3) := by decide +kernel
theorem dX3_loudest_42 : decode cX3_loudest 42 = .ok (.istore 6, 2) := by decide +kernel
theorem dX3_loudest_44 : decode cX3_loudest 44 = .ok (.iload 6, 2) := by decide +kernel
theorem dX3_loudest_46 : decode cX3_loudest 46 = .ok (.iload 4, 2) := by decide +kernel
theorem dX3_loudest_48 : decode cX3_loudest 48 = .ok (.if_icmp .le 8, 3) := by decide +kernel
theorem dX3_loudest_51 : decode cX3_loudest 51 = .ok (.iload 5, 2) := by decide +kernel
theorem dX3_loudest_53 : decode cX3_loudest 53 = .ok (.goto 4, 3) := by decide +kernel
theorem dX3_loudest_56 : decode cX3_loudest 56 = .ok (.iload_n 3, 1) := by decide +kernel
theorem dX3_loudest_57 : decode cX3_loudest 57 = .ok (.istore_n 3, 1) := by decide +kernel
theorem dX3_loudest_58 : decode cX3_loudest 58 = .ok (.iload 6, 2) := by decide +kernel
theorem dX3_loudest_60 : decode cX3_loudest 60 = .ok (.iload 4, 2) := by decide +kernel
theorem dX3_loudest_62 : decode cX3_loudest 62 = .ok (.if_icmp .le 8, 3) := by decide +kernel
theorem dX3_loudest_65 : decode cX3_loudest 65 = .ok (.iload 6, 2) := by decide +kernel
theorem dX3_loudest_67 : decode cX3_loudest 67 = .ok (.goto 5, 3) := by decide +kernel
theorem dX3_loudest_70 : decode cX3_loudest 70 = .ok (.iload 4, 2) := by decide +kernel
theorem dX3_loudest_72 : decode cX3_loudest 72 = .ok (.istore 4, 2) := by decide +kernel
theorem dX3_loudest_74 : decode cX3_loudest 74 = .ok (.iinc 5 1, 3) := by decide +kernel
theorem dX3_loudest_77 : decode cX3_loudest 77 = .ok (.goto (-69), 3) := by decide +kernel
theorem dX3_loudest_80 : decode cX3_loudest 80 = .ok (.iload_n 3, 1) := by decide +kernel
theorem dX3_loudest_81 : decode cX3_loudest 81 = .ok (.ireturn, 1) := by decide +kernel
set_option maxRecDepth 20000 in
theorem ggX3_ranked_X3_allDay : GoodIn wsX3_ranked wsX3_allDay := goodIn_r _ [7, 8, 9, 10, 11, 6, 12, 13, 14, 15, 16, 17, 18, 19, 20, 21, 22, 23, 24, 25, 26, 27, 28, 29, 30, 31, 32, 33, 34, 35, 36, 37, 38, 39, 40, 41, 42, 43, 44, 45, 46, 47, 48, 49, 50, 51, 52, 53, 54, 55, 56, 57, 58] (by decide +kernel) (by decide +kernel)
set_option maxRecDepth 20000 in
theorem gX3_ranked_X3_allDay : GoodIn wsX3_ranked (wsV RX3 98 RX3 yX3_allDay wsX3_allDay) := goodIn_app (goodIn_of _ (by decide +kernel)) ggX3_ranked_X3_allDay
theorem dX3_ranked_0 : decode cX3_ranked 0 = .ok (.iconst 0, 1) := by decide +kernel
theorem dX3_ranked_1 : decode cX3_ranked 1 = .ok (.istore_n 2, 1) := by decide +kernel
theorem dX3_ranked_2 : decode cX3_ranked 2 = .ok (.iload_n 2, 1) := by decide +kernel
theorem dX3_ranked_3 : decode cX3_ranked 3 = .ok (.aload_n 0, 1) := by decide +kernel
theorem dX3_ranked_4 : decode cX3_ranked 4 = .ok (.getfield 61, 3) := by decide +kernel
theorem dX3_ranked_7 : decode cX3_ranked 7 = .ok (.if_icmp .ge 20, 3) := by decide +kernel
theorem dX3_ranked_10 : decode cX3_ranked 10 = .ok (.aload_n 0, 1) := by decide +kernel
theorem dX3_ranked_11 : decode cX3_ranked 11 = .ok (.getfield 47, 3) := by decide +kernel
theorem dX3_ranked_14 : decode cX3_ranked 14 = .ok (.iload_n 2, 1) := by decide +kernel
theorem dX3_ranked_15 : decode cX3_ranked 15 = .ok (.aload_n 0, 1) := by decide +kernel
theorem dX3_ranked_16 : decode cX3_ranked 16 = .ok (.iload_n 2, 1) := by decide +kernel
theorem dX3_ranked_17 : decode cX3_ranked 17 = .ok (.invokevirtual 98, 3) := by decide +kernel
theorem dX3_ranked_20 : decode cX3_ranked 20 = .ok (.iastore, 1) := by decide +kernel
theorem dX3_ranked_21 : decode cX3_ranked 21 = .ok (.iinc 2 1, 3) := by decide +kernel
theorem dX3_ranked_24 : decode cX3_ranked 24 = .ok (.goto (-22), 3) := by decide +kernel
theorem dX3_ranked_27 : decode cX3_ranked 27 = .ok (.iconst 0, 1) := by decide +kernel
theorem dX3_ranked_28 : decode cX3_ranked 28 = .ok (.istore_n 2, 1) := by decide +kernel
theorem dX3_ranked_29 : decode cX3_ranked 29 = .ok (.iload_n 2, 1) := by decide +kernel
theorem dX3_ranked_30 : decode cX3_ranked 30 = .ok (.aload_n 0, 1) := by decide +kernel
theorem dX3_ranked_31 : decode cX3_ranked 31 = .ok (.getfield 61, 3) := by decide +kernel
theorem dX3_ranked_34 : decode cX3_ranked 34 = .ok (.if_icmp .ge 82, 3) := by decide +kernel
theorem dX3_ranked_37 : decode cX3_ranked 37 = .ok (.iconst 0, 1) := by decide +kernel
theorem dX3_ranked_38 : decode cX3_ranked 38 = .ok (.istore_n 3, 1) := by decide +kernel
theorem dX3_ranked_39 : decode cX3_ranked 39 = .ok (.iconst 0, 1) := by decide +kernel
theorem dX3_ranked_40 : decode cX3_ranked 40 = .ok (.istore 4, 2) := by decide +kernel
theorem dX3_ranked_42 : decode cX3_ranked 42 = .ok (.iload 4, 2) := by decide +kernel
theorem dX3_ranked_44 : decode cX3_ranked 44 = .ok (.aload_n 0, 1) := by decide +kernel
theorem dX3_ranked_45 : decode cX3_ranked 45 = .ok (.getfield 61, 3) := by decide +kernel
theorem dX3_ranked_48 : decode cX3_ranked 48 = .ok (.if_icmp .ge 55, 3) := by decide +kernel
theorem dX3_ranked_51 : decode cX3_ranked 51 = .ok (.iload_n 3, 1) := by decide +kernel
theorem dX3_ranked_52 : decode cX3_ranked 52 = .ok (.aload_n 0, 1) := by decide +kernel
theorem dX3_ranked_53 : decode cX3_ranked 53 = .ok (.getfield 47, 3) := by decide +kernel
theorem dX3_ranked_56 : decode cX3_ranked 56 = .ok (.iload 4, 2) := by decide +kernel
theorem dX3_ranked_58 : decode cX3_ranked 58 = .ok (.iaload, 1) := by decide +kernel
theorem dX3_ranked_59 : decode cX3_ranked 59 = .ok (.aload_n 0, 1) := by decide +kernel
theorem dX3_ranked_60 : decode cX3_ranked 60 = .ok (.getfield 47, 3) := by decide +kernel
theorem dX3_ranked_63 : decode cX3_ranked 63 = .ok (.iload_n 2, 1) := by decide +kernel
theorem dX3_ranked_64 : decode cX3_ranked 64 = .ok (.iaload, 1) := by decide +kernel
theorem dX3_ranked_65 : decode cX3_ranked 65 = .ok (.if_icmp .gt 25, 3) := by decide +kernel
theorem dX3_ranked_68 : decode cX3_ranked 68 = .ok (.aload_n 0, 1) := by decide +kernel
theorem dX3_ranked_69 : decode cX3_ranked 69 = .ok (.getfield 47, 3) := by decide +kernel
theorem dX3_ranked_72 : decode cX3_ranked 72 = .ok (.iload 4, 2) := by decide +kernel
theorem dX3_ranked_74 : decode cX3_ranked 74 = .ok (.iaload, 1) := by decide +kernel
theorem dX3_ranked_75 : decode cX3_ranked 75 = .ok (.aload_n 0, 1) := by decide +kernel
theorem dX3_ranked_76 : decode cX3_ranked 76 = .ok (.getfield 47, 3) := by decide +kernel
theorem dX3_ranked_79 : decode cX3_ranked 79 = .ok (.iload_n 2, 1) := by decide +kernel
theorem dX3_ranked_80 : decode cX3_ranked 80 = .ok (.iaload, 1) := by decide +kernel
theorem dX3_ranked_81 : decode cX3_ranked 81 = .ok (.if_icmp .ne 13, 3) := by decide +kernel
theorem dX3_ranked_84 : decode cX3_ranked 84 = .ok (.iload 4, 2) := by decide +kernel
theorem dX3_ranked_86 : decode cX3_ranked 86 = .ok (.iload_n 2, 1) := by decide +kernel
theorem dX3_ranked_87 : decode cX3_ranked 87 = .ok (.if_icmp .ge 7, 3) := by decide +kernel
theorem dX3_ranked_90 : decode cX3_ranked 90 = .ok (.iconst 1, 1) := by decide +kernel
theorem dX3_ranked_91 : decode cX3_ranked 91 = .ok (.goto 4, 3) := by decide +kernel
theorem dX3_ranked_94 : decode cX3_ranked 94 = .ok (.iconst 0, 1) := by decide +kernel
theorem dX3_ranked_95 : decode cX3_ranked 95 = .ok (.iadd, 1) := by decide +kernel
theorem dX3_ranked_96 : decode cX3_ranked 96 = .ok (.istore_n 3, 1) := by decide +kernel
theorem dX3_ranked_97 : decode cX3_ranked 97 = .ok (.iinc 4 1, 3) := by decide +kernel
theorem dX3_ranked_100 : decode cX3_ranked 100 = .ok (.goto (-58), 3) := by decide +kernel
theorem dX3_ranked_103 : decode cX3_ranked 103 = .ok (.iload_n 3, 1) := by decide +kernel
theorem dX3_ranked_104 : decode cX3_ranked 104 = .ok (.iload_n 1, 1) := by decide +kernel
theorem dX3_ranked_105 : decode cX3_ranked 105 = .ok (.if_icmp .ne 5, 3) := by decide +kernel
theorem dX3_ranked_108 : decode cX3_ranked 108 = .ok (.iload_n 2, 1) := by decide +kernel
theorem dX3_ranked_109 : decode cX3_ranked 109 = .ok (.ireturn, 1) := by decide +kernel
theorem dX3_ranked_110 : decode cX3_ranked 110 = .ok (.iinc 2 1, 3) := by decide +kernel
theorem dX3_ranked_113 : decode cX3_ranked 113 = .ok (.goto (-84), 3) := by decide +kernel
theorem dX3_ranked_116 : decode cX3_ranked 116 = .ok (.iconst (-1), 1) := by decide +kernel
theorem dX3_ranked_117 : decode cX3_ranked 117 = .ok (.ireturn, 1) := by decide +kernel
set_option maxRecDepth 20000 in
theorem ggX3_isQuiet_X3_allDay : GoodIn wsX3_isQuiet wsX3_allDay := goodIn_r _ [6, 7, 8, 9, 10, 5, 11, 12, 13, 14, 15, 16, 17, 18, 19, 20, 21, 22, 23, 24, 25, 26, 27, 28, 29, 30, 31, 32, 33, 34, 35, 36, 37, 38, 39, 40, 41, 42, 43, 44, 45, 46, 47, 48, 49, 50, 51, 52, 53, 54, 55, 56, 57] (by decide +kernel) (by decide +kernel)
set_option maxRecDepth 20000 in
theorem gX3_isQuiet_X3_allDay : GoodIn wsX3_isQuiet (wsV RX3 98 RX3 yX3_allDay wsX3_allDay) := goodIn_app (goodIn_of _ (by decide +kernel)) ggX3_isQuiet_X3_allDay
theorem dX3_isQuiet_0 : decode cX3_isQuiet 0 = .ok (.iconst 1, 1) := by decide +kernel
theorem dX3_isQuiet_1 : decode cX3_isQuiet 1 = .ok (.istore_n 2, 1) := by decide +kernel
theorem dX3_isQuiet_2 : decode cX3_isQuiet 2 = .ok (.iconst 0, 1) := by decide +kernel
theorem dX3_isQuiet_3 : decode cX3_isQuiet 3 = .ok (.istore_n 3, 1) := by decide +kernel
theorem dX3_isQuiet_4 : decode cX3_isQuiet 4 = .ok (.iload_n 3, 1) := by decide +kernel
theorem dX3_isQuiet_5 : decode cX3_isQuiet 5 = .ok (.aload_n 0, 1) := by decide +kernel
theorem dX3_isQuiet_6 : decode cX3_isQuiet 6 = .ok (.getfield 61, 3) := by decide +kernel
theorem dX3_isQuiet_9 : decode cX3_isQuiet 9 = .ok (.if_icmp .ge 28, 3) := by decide +kernel
theorem dX3_isQuiet_12 : decode cX3_isQuiet 12 = .ok (.iload_n 2, 1) := by decide +kernel
theorem dX3_isQuiet_13 : decode cX3_isQuiet 13 = .ok (.ifCond .eq 24, 3) := by decide +kernel
theorem dX3_isQuiet_16 : decode cX3_isQuiet 16 = .ok (.aload_n 0, 1) := by decide +kernel
theorem dX3_isQuiet_17 : decode cX3_isQuiet 17 = .ok (.iload_n 3, 1) := by decide +kernel
theorem dX3_isQuiet_18 : decode cX3_isQuiet 18 = .ok (.invokevirtual 98, 3) := by decide +kernel
theorem dX3_isQuiet_21 : decode cX3_isQuiet 21 = .ok (.iload_n 1, 1) := by decide +kernel
theorem dX3_isQuiet_22 : decode cX3_isQuiet 22 = .ok (.if_icmp .gt 7, 3) := by decide +kernel
theorem dX3_isQuiet_25 : decode cX3_isQuiet 25 = .ok (.iconst 1, 1) := by decide +kernel
theorem dX3_isQuiet_26 : decode cX3_isQuiet 26 = .ok (.goto 4, 3) := by decide +kernel
theorem dX3_isQuiet_29 : decode cX3_isQuiet 29 = .ok (.iconst 0, 1) := by decide +kernel
theorem dX3_isQuiet_30 : decode cX3_isQuiet 30 = .ok (.istore_n 2, 1) := by decide +kernel
theorem dX3_isQuiet_31 : decode cX3_isQuiet 31 = .ok (.iinc 3 1, 3) := by decide +kernel
theorem dX3_isQuiet_34 : decode cX3_isQuiet 34 = .ok (.goto (-30), 3) := by decide +kernel
theorem dX3_isQuiet_37 : decode cX3_isQuiet 37 = .ok (.iload_n 2, 1) := by decide +kernel
theorem dX3_isQuiet_38 : decode cX3_isQuiet 38 = .ok (.ireturn, 1) := by decide +kernel
theorem dX3_isWall_0 : decode cX3_isWall 0 = .ok (.iload_n 1, 1) := by decide +kernel
theorem dX3_isWall_1 : decode cX3_isWall 1 = .ok (.ifCond .lt 15, 3) := by decide +kernel
theorem dX3_isWall_4 : decode cX3_isWall 4 = .ok (.iload_n 1, 1) := by decide +kernel
theorem dX3_isWall_5 : decode cX3_isWall 5 = .ok (.aload_n 0, 1) := by decide +kernel
theorem dX3_isWall_6 : decode cX3_isWall 6 = .ok (.getfield 64, 3) := by decide +kernel
theorem dX3_isWall_9 : decode cX3_isWall 9 = .ok (.if_icmp .ge 7, 3) := by decide +kernel
theorem dX3_isWall_12 : decode cX3_isWall 12 = .ok (.iconst 1, 1) := by decide +kernel
theorem dX3_isWall_13 : decode cX3_isWall 13 = .ok (.goto 4, 3) := by decide +kernel
theorem dX3_isWall_16 : decode cX3_isWall 16 = .ok (.iconst 0, 1) := by decide +kernel
theorem dX3_isWall_17 : decode cX3_isWall 17 = .ok (.ireturn, 1) := by decide +kernel
set_option maxRecDepth 20000 in
theorem ggX3_needed_X3_isWall : GoodIn wsX3_needed wsX3_isWall := goodIn_r _ [6, 7, 49, 50, 51, 52, 53, 54, 55, 56, 57, 58, 59, 60, 61, 62, 63, 64, 65] (by decide +kernel) (by decide +kernel)
set_option maxRecDepth 20000 in
theorem gX3_needed_X3_isWall : GoodIn wsX3_needed (wsV RX3 102 RX3 yX3_isWall wsX3_isWall) := goodIn_app (goodIn_of _ (by decide +kernel)) ggX3_needed_X3_isWall
set_option maxRecDepth 20000 in
theorem ggX3_needed_X3_isQuiet : GoodIn wsX3_needed wsX3_isQuiet := goodIn_r _ [11, 12, 13, 14, 15, 5, 16, 17, 18, 19, 20, 21, 22, 23, 24, 25, 26, 27, 28, 29, 30, 31, 32, 33, 34, 7, 1, 35, 36, 37, 38, 39, 40, 41, 42, 43, 44, 45, 46, 47, 48, 49, 50, 51, 52, 53, 54, 55, 56, 57, 58, 59, 60, 61, 62, 63, 64, 65] (by decide +kernel) (by decide +kernel)
set_option maxRecDepth 20000 in
theorem gX3_needed_X3_isQuiet : GoodIn wsX3_needed (wsV RX3 105 RX3 yX3_isQuiet wsX3_isQuiet) := goodIn_app (goodIn_of _ (by decide +kernel)) ggX3_needed_X3_isQuiet
theorem dX3_needed_0 : decode cX3_needed 0 = .ok (.aload_n 0, 1) := by decide +kernel
theorem dX3_needed_1 : decode cX3_needed 1 = .ok (.iload_n 1, 1) := by decide +kernel
theorem dX3_needed_2 : decode cX3_needed 2 = .ok (.invokevirtual 102, 3) := by decide +kernel
theorem dX3_needed_5 : decode cX3_needed 5 = .ok (.ifCond .ne 5, 3) := by decide +kernel
theorem dX3_needed_8 : decode cX3_needed 8 = .ok (.iconst (-1), 1) := by decide +kernel
theorem dX3_needed_9 : decode cX3_needed 9 = .ok (.ireturn, 1) := by decide +kernel
theorem dX3_needed_10 : decode cX3_needed 10 = .ok (.aload_n 0, 1) := by decide +kernel
theorem dX3_needed_11 : decode cX3_needed 11 = .ok (.getfield 31, 3) := by decide +kernel
theorem dX3_needed_14 : decode cX3_needed 14 = .ok (.iload_n 1, 1) := by decide +kernel
theorem dX3_needed_15 : decode cX3_needed 15 = .ok (.iaload, 1) := by decide +kernel
theorem dX3_needed_16 : decode cX3_needed 16 = .ok (.istore_n 3, 1) := by decide +kernel
theorem dX3_needed_17 : decode cX3_needed 17 = .ok (.iconst (-1), 1) := by decide +kernel
theorem dX3_needed_18 : decode cX3_needed 18 = .ok (.istore 4, 2) := by decide +kernel
theorem dX3_needed_20 : decode cX3_needed 20 = .ok (.iconst 0, 1) := by decide +kernel
theorem dX3_needed_21 : decode cX3_needed 21 = .ok (.istore 5, 2) := by decide +kernel
theorem dX3_needed_23 : decode cX3_needed 23 = .ok (.iload 5, 2) := by decide +kernel
theorem dX3_needed_25 : decode cX3_needed 25 = .ok (.sipush 300, 3) := by decide +kernel
theorem dX3_needed_28 : decode cX3_needed 28 = .ok (.if_icmp .gt 38, 3) := by decide +kernel
theorem dX3_needed_31 : decode cX3_needed 31 = .ok (.iload 4, 2) := by decide +kernel
theorem dX3_needed_33 : decode cX3_needed 33 = .ok (.ifCond .ge 33, 3) := by decide +kernel
theorem dX3_needed_36 : decode cX3_needed 36 = .ok (.aload_n 0, 1) := by decide +kernel
theorem dX3_needed_37 : decode cX3_needed 37 = .ok (.getfield 31, 3) := by decide +kernel
theorem dX3_needed_40 : decode cX3_needed 40 = .ok (.iload_n 1, 1) := by decide +kernel
theorem dX3_needed_41 : decode cX3_needed 41 = .ok (.iload 5, 2) := by decide +kernel
theorem dX3_needed_43 : decode cX3_needed 43 = .ok (.iastore, 1) := by decide +kernel
theorem dX3_needed_44 : decode cX3_needed 44 = .ok (.aload_n 0, 1) := by decide +kernel
theorem dX3_needed_45 : decode cX3_needed 45 = .ok (.iload_n 2, 1) := by decide +kernel
theorem dX3_needed_46 : decode cX3_needed 46 = .ok (.invokevirtual 105, 3) := by decide +kernel
theorem dX3_needed_49 : decode cX3_needed 49 = .ok (.ifCond .eq 8, 3) := by decide +kernel
theorem dX3_needed_52 : decode cX3_needed 52 = .ok (.iload 5, 2) := by decide +kernel
theorem dX3_needed_54 : decode cX3_needed 54 = .ok (.goto 4, 3) := by decide +kernel
theorem dX3_needed_57 : decode cX3_needed 57 = .ok (.iconst (-1), 1) := by decide +kernel
theorem dX3_needed_58 : decode cX3_needed 58 = .ok (.istore 4, 2) := by decide +kernel
theorem dX3_needed_60 : decode cX3_needed 60 = .ok (.iinc 5 5, 3) := by decide +kernel
theorem dX3_needed_63 : decode cX3_needed 63 = .ok (.goto (-40), 3) := by decide +kernel
theorem dX3_needed_66 : decode cX3_needed 66 = .ok (.aload_n 0, 1) := by decide +kernel
theorem dX3_needed_67 : decode cX3_needed 67 = .ok (.getfield 31, 3) := by decide +kernel
theorem dX3_needed_70 : decode cX3_needed 70 = .ok (.iload_n 1, 1) := by decide +kernel
theorem dX3_needed_71 : decode cX3_needed 71 = .ok (.iload_n 3, 1) := by decide +kernel
theorem dX3_needed_72 : decode cX3_needed 72 = .ok (.iastore, 1) := by decide +kernel
theorem dX3_needed_73 : decode cX3_needed 73 = .ok (.iload 4, 2) := by decide +kernel
theorem dX3_needed_75 : decode cX3_needed 75 = .ok (.ireturn, 1) := by decide +kernel
set_option maxRecDepth 20000 in
theorem ggX3_recut_X3_isWall : GoodIn wsX3_recut wsX3_isWall := goodIn_r _ [6, 7, 11, 12, 13, 14, 15, 16, 17, 18, 19, 20, 21, 22, 23, 24, 25, 26, 27] (by decide +kernel) (by decide +kernel)
set_option maxRecDepth 20000 in
theorem gX3_recut_X3_isWall : GoodIn wsX3_recut (wsV RX3 102 RX3 yX3_isWall wsX3_isWall) := goodIn_app (goodIn_of _ (by decide +kernel)) ggX3_recut_X3_isWall
set_option maxRecDepth 20000 in
theorem ggX3_recut_X3_within : GoodIn wsX3_recut wsX3_within := goodIn_r _ [10] (by decide +kernel) (by decide +kernel)
set_option maxRecDepth 20000 in
theorem gX3_recut_X3_within : GoodIn wsX3_recut (va_wsS RX3 50 yX3_within wsX3_within) := goodIn_app (goodIn_of _ (by decide +kernel)) ggX3_recut_X3_within
theorem dX3_recut_0 : decode cX3_recut 0 = .ok (.aload_n 0, 1) := by decide +kernel
theorem dX3_recut_1 : decode cX3_recut 1 = .ok (.iload_n 1, 1) := by decide +kernel
theorem dX3_recut_2 : decode cX3_recut 2 = .ok (.invokevirtual 102, 3) := by decide +kernel
theorem dX3_recut_5 : decode cX3_recut 5 = .ok (.ifCond .eq 14, 3) := by decide +kernel
theorem dX3_recut_8 : decode cX3_recut 8 = .ok (.iload_n 2, 1) := by decide +kernel
theorem dX3_recut_9 : decode cX3_recut 9 = .ok (.iconst 0, 1) := by decide +kernel
theorem dX3_recut_10 : decode cX3_recut 10 = .ok (.sipush 300, 3) := by decide +kernel
theorem dX3_recut_13 : decode cX3_recut 13 = .ok (.invokestatic 50, 3) := by decide +kernel
theorem dX3_recut_16 : decode cX3_recut 16 = .ok (.ifCond .ne 5, 3) := by decide +kernel
theorem dX3_recut_19 : decode cX3_recut 19 = .ok (.iconst (-1), 1) := by decide +kernel
theorem dX3_recut_20 : decode cX3_recut 20 = .ok (.ireturn, 1) := by decide +kernel
theorem dX3_recut_21 : decode cX3_recut 21 = .ok (.aload_n 0, 1) := by decide +kernel
theorem dX3_recut_22 : decode cX3_recut 22 = .ok (.getfield 31, 3) := by decide +kernel
theorem dX3_recut_25 : decode cX3_recut 25 = .ok (.iload_n 1, 1) := by decide +kernel
theorem dX3_recut_26 : decode cX3_recut 26 = .ok (.iaload, 1) := by decide +kernel
theorem dX3_recut_27 : decode cX3_recut 27 = .ok (.istore_n 3, 1) := by decide +kernel
theorem dX3_recut_28 : decode cX3_recut 28 = .ok (.aload_n 0, 1) := by decide +kernel
theorem dX3_recut_29 : decode cX3_recut 29 = .ok (.getfield 31, 3) := by decide +kernel
theorem dX3_recut_32 : decode cX3_recut 32 = .ok (.iload_n 1, 1) := by decide +kernel
theorem dX3_recut_33 : decode cX3_recut 33 = .ok (.iload_n 2, 1) := by decide +kernel
theorem dX3_recut_34 : decode cX3_recut 34 = .ok (.iastore, 1) := by decide +kernel
theorem dX3_recut_35 : decode cX3_recut 35 = .ok (.iload_n 3, 1) := by decide +kernel
theorem dX3_recut_36 : decode cX3_recut 36 = .ok (.ireturn, 1) := by decide +kernel
set_option maxRecDepth 20000 in
theorem ggX3_lamp_X3_within : GoodIn wsX3_lamp wsX3_within := goodIn_r _ [6] (by decide +kernel) (by decide +kernel)
set_option maxRecDepth 20000 in
theorem gX3_lamp_X3_within : GoodIn wsX3_lamp (va_wsS RX3 50 yX3_within wsX3_within) := goodIn_app (goodIn_of _ (by decide +kernel)) ggX3_lamp_X3_within
theorem dX3_lamp_0 : decode cX3_lamp 0 = .ok (.iload_n 1, 1) := by decide +kernel
theorem dX3_lamp_1 : decode cX3_lamp 1 = .ok (.iconst 0, 1) := by decide +kernel
theorem dX3_lamp_2 : decode cX3_lamp 2 = .ok (.sipush 300, 3) := by decide +kernel
theorem dX3_lamp_5 : decode cX3_lamp 5 = .ok (.invokestatic 50, 3) := by decide +kernel
theorem dX3_lamp_8 : decode cX3_lamp 8 = .ok (.ifCond .eq 20, 3) := by decide +kernel
theorem dX3_lamp_11 : decode cX3_lamp 11 = .ok (.iload_n 1, 1) := by decide +kernel
theorem dX3_lamp_12 : decode cX3_lamp 12 = .ok (.bipush 10, 2) := by decide +kernel
theorem dX3_lamp_14 : decode cX3_lamp 14 = .ok (.irem, 1) := by decide +kernel
theorem dX3_lamp_15 : decode cX3_lamp 15 = .ok (.ifCond .ne 13, 3) := by decide +kernel
theorem dX3_lamp_18 : decode cX3_lamp 18 = .ok (.iload_n 2, 1) := by decide +kernel
theorem dX3_lamp_19 : decode cX3_lamp 19 = .ok (.iconst 0, 1) := by decide +kernel
theorem dX3_lamp_20 : decode cX3_lamp 20 = .ok (.ldc 108, 2) := by decide +kernel
theorem dX3_lamp_22 : decode cX3_lamp 22 = .ok (.invokestatic 50, 3) := by decide +kernel
theorem dX3_lamp_25 : decode cX3_lamp 25 = .ok (.ifCond .ne 5, 3) := by decide +kernel
theorem dX3_lamp_28 : decode cX3_lamp 28 = .ok (.iconst (-1), 1) := by decide +kernel
theorem dX3_lamp_29 : decode cX3_lamp 29 = .ok (.ireturn, 1) := by decide +kernel
theorem dX3_lamp_30 : decode cX3_lamp 30 = .ok (.aload_n 0, 1) := by decide +kernel
theorem dX3_lamp_31 : decode cX3_lamp 31 = .ok (.getfield 41, 3) := by decide +kernel
theorem dX3_lamp_34 : decode cX3_lamp 34 = .ok (.iload_n 1, 1) := by decide +kernel
theorem dX3_lamp_35 : decode cX3_lamp 35 = .ok (.bipush 10, 2) := by decide +kernel
theorem dX3_lamp_37 : decode cX3_lamp 37 = .ok (.idiv, 1) := by decide +kernel
theorem dX3_lamp_38 : decode cX3_lamp 38 = .ok (.iaload, 1) := by decide +kernel
theorem dX3_lamp_39 : decode cX3_lamp 39 = .ok (.istore_n 3, 1) := by decide +kernel
theorem dX3_lamp_40 : decode cX3_lamp 40 = .ok (.aload_n 0, 1) := by decide +kernel
theorem dX3_lamp_41 : decode cX3_lamp 41 = .ok (.getfield 41, 3) := by decide +kernel
theorem dX3_lamp_44 : decode cX3_lamp 44 = .ok (.iload_n 1, 1) := by decide +kernel
theorem dX3_lamp_45 : decode cX3_lamp 45 = .ok (.bipush 10, 2) := by decide +kernel
theorem dX3_lamp_47 : decode cX3_lamp 47 = .ok (.idiv, 1) := by decide +kernel
theorem dX3_lamp_48 : decode cX3_lamp 48 = .ok (.iload_n 2, 1) := by decide +kernel
theorem dX3_lamp_49 : decode cX3_lamp 49 = .ok (.iastore, 1) := by decide +kernel
theorem dX3_lamp_50 : decode cX3_lamp 50 = .ok (.iload_n 3, 1) := by decide +kernel
theorem dX3_lamp_51 : decode cX3_lamp 51 = .ok (.ireturn, 1) := by decide +kernel
theorem dX3_lightAt_0 : decode cX3_lightAt 0 = .ok (.iload_n 1, 1) := by decide +kernel
theorem dX3_lightAt_1 : decode cX3_lightAt 1 = .ok (.sipush 300, 3) := by decide +kernel
theorem dX3_lightAt_4 : decode cX3_lightAt 4 = .ok (.if_icmp .le 5, 3) := by decide +kernel
theorem dX3_lightAt_7 : decode cX3_lightAt 7 = .ok (.iconst 0, 1) := by decide +kernel
theorem dX3_lightAt_8 : decode cX3_lightAt 8 = .ok (.ireturn, 1) := by decide +kernel
theorem dX3_lightAt_9 : decode cX3_lightAt 9 = .ok (.iload_n 1, 1) := by decide +kernel
theorem dX3_lightAt_10 : decode cX3_lightAt 10 = .ok (.bipush 10, 2) := by decide +kernel
theorem dX3_lightAt_12 : decode cX3_lightAt 12 = .ok (.idiv, 1) := by decide +kernel
theorem dX3_lightAt_13 : decode cX3_lightAt 13 = .ok (.istore_n 2, 1) := by decide +kernel
theorem dX3_lightAt_14 : decode cX3_lightAt 14 = .ok (.iload_n 1, 1) := by decide +kernel
theorem dX3_lightAt_15 : decode cX3_lightAt 15 = .ok (.bipush 10, 2) := by decide +kernel
theorem dX3_lightAt_17 : decode cX3_lightAt 17 = .ok (.irem, 1) := by decide +kernel
theorem dX3_lightAt_18 : decode cX3_lightAt 18 = .ok (.istore_n 3, 1) := by decide +kernel
theorem dX3_lightAt_19 : decode cX3_lightAt 19 = .ok (.iload_n 3, 1) := by decide +kernel
theorem dX3_lightAt_20 : decode cX3_lightAt 20 = .ok (.ifCond .ne 12, 3) := by decide +kernel
theorem dX3_lightAt_23 : decode cX3_lightAt 23 = .ok (.aload_n 0, 1) := by decide +kernel
theorem dX3_lightAt_24 : decode cX3_lightAt 24 = .ok (.getfield 41, 3) := by decide +kernel
theorem dX3_lightAt_27 : decode cX3_lightAt 27 = .ok (.iload_n 2, 1) := by decide +kernel
theorem dX3_lightAt_28 : decode cX3_lightAt 28 = .ok (.iaload, 1) := by decide +kernel
theorem dX3_lightAt_29 : decode cX3_lightAt 29 = .ok (.goto 28, 3) := by decide +kernel
theorem dX3_lightAt_32 : decode cX3_lightAt 32 = .ok (.aload_n 0, 1) := by decide +kernel
theorem dX3_lightAt_33 : decode cX3_lightAt 33 = .ok (.getfield 41, 3) := by decide +kernel
theorem dX3_lightAt_36 : decode cX3_lightAt 36 = .ok (.iload_n 2, 1) := by decide +kernel
theorem dX3_lightAt_37 : decode cX3_lightAt 37 = .ok (.iaload, 1) := by decide +kernel
theorem dX3_lightAt_38 : decode cX3_lightAt 38 = .ok (.bipush 10, 2) := by decide +kernel
theorem dX3_lightAt_40 : decode cX3_lightAt 40 = .ok (.iload_n 3, 1) := by decide +kernel
theorem dX3_lightAt_41 : decode cX3_lightAt 41 = .ok (.isub, 1) := by decide +kernel
theorem dX3_lightAt_42 : decode cX3_lightAt 42 = .ok (.imul, 1) := by decide +kernel
theorem dX3_lightAt_43 : decode cX3_lightAt 43 = .ok (.aload_n 0, 1) := by decide +kernel
theorem dX3_lightAt_44 : decode cX3_lightAt 44 = .ok (.getfield 41, 3) := by decide +kernel
theorem dX3_lightAt_47 : decode cX3_lightAt 47 = .ok (.iload_n 2, 1) := by decide +kernel
theorem dX3_lightAt_48 : decode cX3_lightAt 48 = .ok (.iconst 1, 1) := by decide +kernel
theorem dX3_lightAt_49 : decode cX3_lightAt 49 = .ok (.iadd, 1) := by decide +kernel
theorem dX3_lightAt_50 : decode cX3_lightAt 50 = .ok (.iaload, 1) := by decide +kernel
theorem dX3_lightAt_51 : decode cX3_lightAt 51 = .ok (.iload_n 3, 1) := by decide +kernel
theorem dX3_lightAt_52 : decode cX3_lightAt 52 = .ok (.imul, 1) := by decide +kernel
theorem dX3_lightAt_53 : decode cX3_lightAt 53 = .ok (.iadd, 1) := by decide +kernel
theorem dX3_lightAt_54 : decode cX3_lightAt 54 = .ok (.bipush 10, 2) := by decide +kernel
theorem dX3_lightAt_56 : decode cX3_lightAt 56 = .ok (.idiv, 1) := by decide +kernel
theorem dX3_lightAt_57 : decode cX3_lightAt 57 = .ok (.ireturn, 1) := by decide +kernel
set_option maxRecDepth 20000 in
theorem ggX3_shines_X3_lightAt : GoodIn wsX3_shines wsX3_lightAt := goodIn_r _ [5, 6, 7, 8, 9, 10, 11, 12, 13, 14, 15, 16, 17, 18, 19, 20, 21, 22, 23] (by decide +kernel) (by decide +kernel)
set_option maxRecDepth 20000 in
theorem gX3_shines_X3_lightAt : GoodIn wsX3_shines (wsV RX3 109 RX3 yX3_lightAt wsX3_lightAt) := goodIn_app (goodIn_of _ (by decide +kernel)) ggX3_shines_X3_lightAt
theorem dX3_shines_0 : decode cX3_shines 0 = .ok (.iload_n 1, 1) := by decide +kernel
theorem dX3_shines_1 : decode cX3_shines 1 = .ok (.ifCond .ge 7, 3) := by decide +kernel
theorem dX3_shines_4 : decode cX3_shines 4 = .ok (.iconst (-1), 1) := by decide +kernel
theorem dX3_shines_5 : decode cX3_shines 5 = .ok (.goto 8, 3) := by decide +kernel
theorem dX3_shines_8 : decode cX3_shines 8 = .ok (.aload_n 0, 1) := by decide +kernel
theorem dX3_shines_9 : decode cX3_shines 9 = .ok (.iload_n 1, 1) := by decide +kernel
theorem dX3_shines_10 : decode cX3_shines 10 = .ok (.invokevirtual 109, 3) := by decide +kernel
theorem dX3_shines_13 : decode cX3_shines 13 = .ok (.ireturn, 1) := by decide +kernel
set_option maxRecDepth 20000 in
theorem ggX3_road_X3_within : GoodIn wsX3_road wsX3_within := goodIn_r _ [5] (by decide +kernel) (by decide +kernel)
set_option maxRecDepth 20000 in
theorem gX3_road_X3_within : GoodIn wsX3_road (va_wsS RX3 50 yX3_within wsX3_within) := goodIn_app (goodIn_of _ (by decide +kernel)) ggX3_road_X3_within
theorem dX3_road_0 : decode cX3_road 0 = .ok (.iload_n 1, 1) := by decide +kernel
theorem dX3_road_1 : decode cX3_road 1 = .ok (.iconst 0, 1) := by decide +kernel
theorem dX3_road_2 : decode cX3_road 2 = .ok (.sipush 5000, 3) := by decide +kernel
theorem dX3_road_5 : decode cX3_road 5 = .ok (.invokestatic 50, 3) := by decide +kernel
theorem dX3_road_8 : decode cX3_road 8 = .ok (.ifCond .ne 5, 3) := by decide +kernel
theorem dX3_road_11 : decode cX3_road 11 = .ok (.iconst (-1), 1) := by decide +kernel
theorem dX3_road_12 : decode cX3_road 12 = .ok (.ireturn, 1) := by decide +kernel
theorem dX3_road_13 : decode cX3_road 13 = .ok (.aload_n 0, 1) := by decide +kernel
theorem dX3_road_14 : decode cX3_road 14 = .ok (.getfield 112, 3) := by decide +kernel
theorem dX3_road_17 : decode cX3_road 17 = .ok (.istore_n 2, 1) := by decide +kernel
theorem dX3_road_18 : decode cX3_road 18 = .ok (.aload_n 0, 1) := by decide +kernel
theorem dX3_road_19 : decode cX3_road 19 = .ok (.iload_n 1, 1) := by decide +kernel
theorem dX3_road_20 : decode cX3_road 20 = .ok (.putfield 112, 3) := by decide +kernel
theorem dX3_road_23 : decode cX3_road 23 = .ok (.iload_n 2, 1) := by decide +kernel
theorem dX3_road_24 : decode cX3_road 24 = .ok (.ireturn, 1) := by decide +kernel
set_option maxRecDepth 20000 in
theorem ggX3_dim_X3_within : GoodIn wsX3_dim wsX3_within := goodIn_r _ [5] (by decide +kernel) (by decide +kernel)
set_option maxRecDepth 20000 in
theorem gX3_dim_X3_within : GoodIn wsX3_dim (va_wsS RX3 50 yX3_within wsX3_within) := goodIn_app (goodIn_of _ (by decide +kernel)) ggX3_dim_X3_within
theorem dX3_dim_0 : decode cX3_dim 0 = .ok (.iload_n 1, 1) := by decide +kernel
theorem dX3_dim_1 : decode cX3_dim 1 = .ok (.iconst 0, 1) := by decide +kernel
theorem dX3_dim_2 : decode cX3_dim 2 = .ok (.bipush 23, 2) := by decide +kernel
theorem dX3_dim_4 : decode cX3_dim 4 = .ok (.invokestatic 50, 3) := by decide +kernel
theorem dX3_dim_7 : decode cX3_dim 7 = .ok (.ifCond .eq 13, 3) := by decide +kernel
theorem dX3_dim_10 : decode cX3_dim 10 = .ok (.iload_n 2, 1) := by decide +kernel
theorem dX3_dim_11 : decode cX3_dim 11 = .ok (.iconst 0, 1) := by decide +kernel
theorem dX3_dim_12 : decode cX3_dim 12 = .ok (.bipush 100, 2) := by decide +kernel
theorem dX3_dim_14 : decode cX3_dim 14 = .ok (.invokestatic 50, 3) := by decide +kernel
theorem dX3_dim_17 : decode cX3_dim 17 = .ok (.ifCond .ne 5, 3) := by decide +kernel
theorem dX3_dim_20 : decode cX3_dim 20 = .ok (.iconst (-1), 1) := by decide +kernel
theorem dX3_dim_21 : decode cX3_dim 21 = .ok (.ireturn, 1) := by decide +kernel
theorem dX3_dim_22 : decode cX3_dim 22 = .ok (.aload_n 0, 1) := by decide +kernel
theorem dX3_dim_23 : decode cX3_dim 23 = .ok (.getfield 44, 3) := by decide +kernel
theorem dX3_dim_26 : decode cX3_dim 26 = .ok (.iload_n 1, 1) := by decide +kernel
theorem dX3_dim_27 : decode cX3_dim 27 = .ok (.iaload, 1) := by decide +kernel
theorem dX3_dim_28 : decode cX3_dim 28 = .ok (.istore_n 3, 1) := by decide +kernel
theorem dX3_dim_29 : decode cX3_dim 29 = .ok (.aload_n 0, 1) := by decide +kernel
theorem dX3_dim_30 : decode cX3_dim 30 = .ok (.getfield 44, 3) := by decide +kernel
theorem dX3_dim_33 : decode cX3_dim 33 = .ok (.iload_n 1, 1) := by decide +kernel
theorem dX3_dim_34 : decode cX3_dim 34 = .ok (.iload_n 2, 1) := by decide +kernel
theorem dX3_dim_35 : decode cX3_dim 35 = .ok (.iastore, 1) := by decide +kernel
theorem dX3_dim_36 : decode cX3_dim 36 = .ok (.iload_n 3, 1) := by decide +kernel
theorem dX3_dim_37 : decode cX3_dim 37 = .ok (.ireturn, 1) := by decide +kernel
set_option maxRecDepth 20000 in
theorem ggX3_sumAt_X3_lightAt : GoodIn wsX3_sumAt wsX3_lightAt := goodIn_r _ [6, 7, 8, 9, 10, 11, 12, 13, 14, 15, 16, 17, 18, 19, 20, 21, 22, 23, 24] (by decide +kernel) (by decide +kernel)
set_option maxRecDepth 20000 in
theorem gX3_sumAt_X3_lightAt : GoodIn wsX3_sumAt (wsV RX3 109 RX3 yX3_lightAt wsX3_lightAt) := goodIn_app (goodIn_of _ (by decide +kernel)) ggX3_sumAt_X3_lightAt
theorem dX3_sumAt_0 : decode cX3_sumAt 0 = .ok (.iconst 0, 1) := by decide +kernel
theorem dX3_sumAt_1 : decode cX3_sumAt 1 = .ok (.istore_n 3, 1) := by decide +kernel
theorem dX3_sumAt_2 : decode cX3_sumAt 2 = .ok (.iconst 0, 1) := by decide +kernel
theorem dX3_sumAt_3 : decode cX3_sumAt 3 = .ok (.istore 4, 2) := by decide +kernel
theorem dX3_sumAt_5 : decode cX3_sumAt 5 = .ok (.iload 4, 2) := by decide +kernel
theorem dX3_sumAt_7 : decode cX3_sumAt 7 = .ok (.aload_n 0, 1) := by decide +kernel
theorem dX3_sumAt_8 : decode cX3_sumAt 8 = .ok (.getfield 112, 3) := by decide +kernel
theorem dX3_sumAt_11 : decode cX3_sumAt 11 = .ok (.if_icmp .gt 36, 3) := by decide +kernel
theorem dX3_sumAt_14 : decode cX3_sumAt 14 = .ok (.iload_n 3, 1) := by decide +kernel
theorem dX3_sumAt_15 : decode cX3_sumAt 15 = .ok (.aload_n 0, 1) := by decide +kernel
theorem dX3_sumAt_16 : decode cX3_sumAt 16 = .ok (.iload 4, 2) := by decide +kernel
theorem dX3_sumAt_18 : decode cX3_sumAt 18 = .ok (.iload_n 1, 1) := by decide +kernel
theorem dX3_sumAt_19 : decode cX3_sumAt 19 = .ok (.if_icmp .ge 10, 3) := by decide +kernel
theorem dX3_sumAt_22 : decode cX3_sumAt 22 = .ok (.iload_n 1, 1) := by decide +kernel
theorem dX3_sumAt_23 : decode cX3_sumAt 23 = .ok (.iload 4, 2) := by decide +kernel
theorem dX3_sumAt_25 : decode cX3_sumAt 25 = .ok (.isub, 1) := by decide +kernel
theorem dX3_sumAt_26 : decode cX3_sumAt 26 = .ok (.goto 7, 3) := by decide +kernel
theorem dX3_sumAt_29 : decode cX3_sumAt 29 = .ok (.iload 4, 2) := by decide +kernel
theorem dX3_sumAt_31 : decode cX3_sumAt 31 = .ok (.iload_n 1, 1) := by decide +kernel
theorem dX3_sumAt_32 : decode cX3_sumAt 32 = .ok (.isub, 1) := by decide +kernel
theorem dX3_sumAt_33 : decode cX3_sumAt 33 = .ok (.invokevirtual 109, 3) := by decide +kernel
theorem dX3_sumAt_36 : decode cX3_sumAt 36 = .ok (.iadd, 1) := by decide +kernel
theorem dX3_sumAt_37 : decode cX3_sumAt 37 = .ok (.istore_n 3, 1) := by decide +kernel
theorem dX3_sumAt_38 : decode cX3_sumAt 38 = .ok (.iload 4, 2) := by decide +kernel
theorem dX3_sumAt_40 : decode cX3_sumAt 40 = .ok (.iload_n 2, 1) := by decide +kernel
theorem dX3_sumAt_41 : decode cX3_sumAt 41 = .ok (.iadd, 1) := by decide +kernel
theorem dX3_sumAt_42 : decode cX3_sumAt 42 = .ok (.istore 4, 2) := by decide +kernel
theorem dX3_sumAt_44 : decode cX3_sumAt 44 = .ok (.goto (-39), 3) := by decide +kernel
theorem dX3_sumAt_47 : decode cX3_sumAt 47 = .ok (.iload_n 3, 1) := by decide +kernel
theorem dX3_sumAt_48 : decode cX3_sumAt 48 = .ok (.ireturn, 1) := by decide +kernel
set_option maxRecDepth 20000 in
theorem ggX3_isSpacing_X3_within : GoodIn wsX3_isSpacing wsX3_within := goodIn_r _ [4] (by decide +kernel) (by decide +kernel)
set_option maxRecDepth 20000 in
theorem gX3_isSpacing_X3_within : GoodIn wsX3_isSpacing (va_wsS RX3 50 yX3_within wsX3_within) := goodIn_app (goodIn_of _ (by decide +kernel)) ggX3_isSpacing_X3_within
theorem dX3_isSpacing_0 : decode cX3_isSpacing 0 = .ok (.iload_n 0, 1) := by decide +kernel
theorem dX3_isSpacing_1 : decode cX3_isSpacing 1 = .ok (.bipush 10, 2) := by decide +kernel
theorem dX3_isSpacing_3 : decode cX3_isSpacing 3 = .ok (.sipush 600, 3) := by decide +kernel
theorem dX3_isSpacing_6 : decode cX3_isSpacing 6 = .ok (.invokestatic 50, 3) := by decide +kernel
theorem dX3_isSpacing_9 : decode cX3_isSpacing 9 = .ok (.ireturn, 1) := by decide +kernel
set_option maxRecDepth 20000 in
theorem ggX3_at_X3_within : GoodIn wsX3_at wsX3_within := goodIn_r _ [7] (by decide +kernel) (by decide +kernel)
set_option maxRecDepth 20000 in
theorem gX3_at_X3_within : GoodIn wsX3_at (va_wsS RX3 50 yX3_within wsX3_within) := goodIn_app (goodIn_of _ (by decide +kernel)) ggX3_at_X3_within
set_option maxRecDepth 20000 in
theorem ggX3_at_X3_isSpacing : GoodIn wsX3_at wsX3_isSpacing := goodIn_r _ [10, 4, 5, 6, 7] (by decide +kernel) (by decide +kernel)
set_option maxRecDepth 20000 in
theorem gX3_at_X3_isSpacing : GoodIn wsX3_at (va_wsS RX3 115 yX3_isSpacing wsX3_isSpacing) := goodIn_app (goodIn_of _ (by decide +kernel)) ggX3_at_X3_isSpacing
set_option maxRecDepth 20000 in
theorem ggX3_at_X3_sumAt : GoodIn wsX3_at wsX3_sumAt := goodIn_r _ [14, 1, 15, 16, 17, 6, 18, 19, 20, 21, 22, 23, 24, 25, 26, 27, 28, 29, 30, 31, 32, 33, 34, 35, 36] (by decide +kernel) (by decide +kernel)
set_option maxRecDepth 20000 in
theorem gX3_at_X3_sumAt : GoodIn wsX3_at (wsV RX3 118 RX3 yX3_sumAt wsX3_sumAt) := goodIn_app (goodIn_of _ (by decide +kernel)) ggX3_at_X3_sumAt
theorem dX3_at_0 : decode cX3_at 0 = .ok (.iload_n 1, 1) := by decide +kernel
theorem dX3_at_1 : decode cX3_at 1 = .ok (.iconst 0, 1) := by decide +kernel
theorem dX3_at_2 : decode cX3_at 2 = .ok (.aload_n 0, 1) := by decide +kernel
theorem dX3_at_3 : decode cX3_at 3 = .ok (.getfield 112, 3) := by decide +kernel
theorem dX3_at_6 : decode cX3_at 6 = .ok (.invokestatic 50, 3) := by decide +kernel
theorem dX3_at_9 : decode cX3_at 9 = .ok (.ifCond .eq 24, 3) := by decide +kernel
theorem dX3_at_12 : decode cX3_at 12 = .ok (.iload_n 2, 1) := by decide +kernel
theorem dX3_at_13 : decode cX3_at 13 = .ok (.invokestatic 115, 3) := by decide +kernel
theorem dX3_at_16 : decode cX3_at 16 = .ok (.ifCond .eq 17, 3) := by decide +kernel
theorem dX3_at_19 : decode cX3_at 19 = .ok (.iload_n 3, 1) := by decide +kernel
theorem dX3_at_20 : decode cX3_at 20 = .ok (.iconst 0, 1) := by decide +kernel
theorem dX3_at_21 : decode cX3_at 21 = .ok (.bipush 23, 2) := by decide +kernel
theorem dX3_at_23 : decode cX3_at 23 = .ok (.invokestatic 50, 3) := by decide +kernel
theorem dX3_at_26 : decode cX3_at 26 = .ok (.ifCond .eq 7, 3) := by decide +kernel
theorem dX3_at_29 : decode cX3_at 29 = .ok (.iconst 1, 1) := by decide +kernel
theorem dX3_at_30 : decode cX3_at 30 = .ok (.goto 4, 3) := by decide +kernel
theorem dX3_at_33 : decode cX3_at 33 = .ok (.iconst 0, 1) := by decide +kernel
theorem dX3_at_34 : decode cX3_at 34 = .ok (.istore 4, 2) := by decide +kernel
theorem dX3_at_36 : decode cX3_at 36 = .ok (.iload 4, 2) := by decide +kernel
theorem dX3_at_38 : decode cX3_at 38 = .ok (.ifCond .eq 26, 3) := by decide +kernel
theorem dX3_at_41 : decode cX3_at 41 = .ok (.aload_n 0, 1) := by decide +kernel
theorem dX3_at_42 : decode cX3_at 42 = .ok (.iload_n 1, 1) := by decide +kernel
theorem dX3_at_43 : decode cX3_at 43 = .ok (.iload_n 2, 1) := by decide +kernel
theorem dX3_at_44 : decode cX3_at 44 = .ok (.invokevirtual 118, 3) := by decide +kernel
theorem dX3_at_47 : decode cX3_at 47 = .ok (.i2l, 1) := by decide +kernel
theorem dX3_at_48 : decode cX3_at 48 = .ok (.aload_n 0, 1) := by decide +kernel
theorem dX3_at_49 : decode cX3_at 49 = .ok (.getfield 44, 3) := by decide +kernel
theorem dX3_at_52 : decode cX3_at 52 = .ok (.iload_n 3, 1) := by decide +kernel
theorem dX3_at_53 : decode cX3_at 53 = .ok (.iaload, 1) := by decide +kernel
theorem dX3_at_54 : decode cX3_at 54 = .ok (.i2l, 1) := by decide +kernel
theorem dX3_at_55 : decode cX3_at 55 = .ok (.lmul, 1) := by decide +kernel
theorem dX3_at_56 : decode cX3_at 56 = .ok (.ldc2_w 121, 3) := by decide +kernel
theorem dX3_at_59 : decode cX3_at 59 = .ok (.ldiv, 1) := by decide +kernel
theorem dX3_at_60 : decode cX3_at 60 = .ok (.l2i, 1) := by decide +kernel
theorem dX3_at_61 : decode cX3_at 61 = .ok (.goto 4, 3) := by decide +kernel
theorem dX3_at_64 : decode cX3_at 64 = .ok (.iconst (-1), 1) := by decide +kernel
theorem dX3_at_65 : decode cX3_at 65 = .ok (.ireturn, 1) := by decide +kernel
set_option maxRecDepth 20000 in
theorem ggX3_meanOf_X3_sumAt : GoodIn wsX3_meanOf wsX3_sumAt := goodIn_r _ [7, 1, 8, 9, 10, 6, 11, 12, 13, 14, 15, 16, 17, 18, 19, 20, 21, 22, 23, 24, 25, 26, 27, 28, 29] (by decide +kernel) (by decide +kernel)
set_option maxRecDepth 20000 in
theorem gX3_meanOf_X3_sumAt : GoodIn wsX3_meanOf (wsV RX3 118 RX3 yX3_sumAt wsX3_sumAt) := goodIn_app (goodIn_of _ (by decide +kernel)) ggX3_meanOf_X3_sumAt
theorem dX3_meanOf_0 : decode cX3_meanOf 0 = .ok (.lconst 0, 1) := by decide +kernel
theorem dX3_meanOf_1 : decode cX3_meanOf 1 = .ok (.lstore_n 3, 1) := by decide +kernel
theorem dX3_meanOf_2 : decode cX3_meanOf 2 = .ok (.iconst 0, 1) := by decide +kernel
theorem dX3_meanOf_3 : decode cX3_meanOf 3 = .ok (.istore 5, 2) := by decide +kernel
theorem dX3_meanOf_5 : decode cX3_meanOf 5 = .ok (.iload 5, 2) := by decide +kernel
theorem dX3_meanOf_7 : decode cX3_meanOf 7 = .ok (.aload_n 0, 1) := by decide +kernel
theorem dX3_meanOf_8 : decode cX3_meanOf 8 = .ok (.getfield 112, 3) := by decide +kernel
theorem dX3_meanOf_11 : decode cX3_meanOf 11 = .ok (.if_icmp .gt 27, 3) := by decide +kernel
theorem dX3_meanOf_14 : decode cX3_meanOf 14 = .ok (.lload_n 3, 1) := by decide +kernel
theorem dX3_meanOf_15 : decode cX3_meanOf 15 = .ok (.aload_n 0, 1) := by decide +kernel
theorem dX3_meanOf_16 : decode cX3_meanOf 16 = .ok (.iload 5, 2) := by decide +kernel
theorem dX3_meanOf_18 : decode cX3_meanOf 18 = .ok (.iload_n 1, 1) := by decide +kernel
theorem dX3_meanOf_19 : decode cX3_meanOf 19 = .ok (.invokevirtual 118, 3) := by decide +kernel
theorem dX3_meanOf_22 : decode cX3_meanOf 22 = .ok (.i2l, 1) := by decide +kernel
theorem dX3_meanOf_23 : decode cX3_meanOf 23 = .ok (.iload_n 2, 1) := by decide +kernel
theorem dX3_meanOf_24 : decode cX3_meanOf 24 = .ok (.i2l, 1) := by decide +kernel
theorem dX3_meanOf_25 : decode cX3_meanOf 25 = .ok (.lmul, 1) := by decide +kernel
theorem dX3_meanOf_26 : decode cX3_meanOf 26 = .ok (.ldc2_w 121, 3) := by decide +kernel
theorem dX3_meanOf_29 : decode cX3_meanOf 29 = .ok (.ldiv, 1) := by decide +kernel
theorem dX3_meanOf_30 : decode cX3_meanOf 30 = .ok (.ladd, 1) := by decide +kernel
theorem dX3_meanOf_31 : decode cX3_meanOf 31 = .ok (.lstore_n 3, 1) := by decide +kernel
theorem dX3_meanOf_32 : decode cX3_meanOf 32 = .ok (.iinc 5 10, 3) := by decide +kernel
theorem dX3_meanOf_35 : decode cX3_meanOf 35 = .ok (.goto (-30), 3) := by decide +kernel
theorem dX3_meanOf_38 : decode cX3_meanOf 38 = .ok (.lload_n 3, 1) := by decide +kernel
theorem dX3_meanOf_39 : decode cX3_meanOf 39 = .ok (.aload_n 0, 1) := by decide +kernel
theorem dX3_meanOf_40 : decode cX3_meanOf 40 = .ok (.getfield 112, 3) := by decide +kernel
theorem dX3_meanOf_43 : decode cX3_meanOf 43 = .ok (.bipush 10, 2) := by decide +kernel
theorem dX3_meanOf_45 : decode cX3_meanOf 45 = .ok (.idiv, 1) := by decide +kernel
theorem dX3_meanOf_46 : decode cX3_meanOf 46 = .ok (.iconst 1, 1) := by decide +kernel
theorem dX3_meanOf_47 : decode cX3_meanOf 47 = .ok (.iadd, 1) := by decide +kernel
theorem dX3_meanOf_48 : decode cX3_meanOf 48 = .ok (.i2l, 1) := by decide +kernel
theorem dX3_meanOf_49 : decode cX3_meanOf 49 = .ok (.ldiv, 1) := by decide +kernel
theorem dX3_meanOf_50 : decode cX3_meanOf 50 = .ok (.l2i, 1) := by decide +kernel
theorem dX3_meanOf_51 : decode cX3_meanOf 51 = .ok (.ireturn, 1) := by decide +kernel
set_option maxRecDepth 20000 in
theorem ggX3_leastOf_X3_sumAt : GoodIn wsX3_leastOf wsX3_sumAt := goodIn_r _ [6, 1, 7, 8, 9, 5, 10, 11, 12, 13, 14, 15, 16, 17, 18, 19, 20, 21, 22, 23, 24, 25, 26, 27, 28] (by decide +kernel) (by decide +kernel)
set_option maxRecDepth 20000 in
theorem gX3_leastOf_X3_sumAt : GoodIn wsX3_leastOf (wsV RX3 118 RX3 yX3_sumAt wsX3_sumAt) := goodIn_app (goodIn_of _ (by decide +kernel)) ggX3_leastOf_X3_sumAt
theorem dX3_leastOf_0 : decode cX3_leastOf 0 = .ok (.aload_n 0, 1) := by decide +kernel
theorem dX3_leastOf_1 : decode cX3_leastOf 1 = .ok (.iconst 0, 1) := by decide +kernel
theorem dX3_leastOf_2 : decode cX3_leastOf 2 = .ok (.iload_n 1, 1) := by decide +kernel
theorem dX3_leastOf_3 : decode cX3_leastOf 3 = .ok (.invokevirtual 118, 3) := by decide +kernel
theorem dX3_leastOf_6 : decode cX3_leastOf 6 = .ok (.istore_n 2, 1) := by decide +kernel
theorem dX3_leastOf_7 : decode cX3_leastOf 7 = .ok (.bipush 10, 2) := by decide +kernel
theorem dX3_leastOf_9 : decode cX3_leastOf 9 = .ok (.istore_n 3, 1) := by decide +kernel
theorem dX3_leastOf_10 : decode cX3_leastOf 10 = .ok (.iload_n 3, 1) := by decide +kernel
theorem dX3_leastOf_11 : decode cX3_leastOf 11 = .ok (.aload_n 0, 1) := by decide +kernel
theorem dX3_leastOf_12 : decode cX3_leastOf 12 = .ok (.getfield 112, 3) := by decide +kernel
theorem dX3_leastOf_15 : decode cX3_leastOf 15 = .ok (.if_icmp .gt 30, 3) := by decide +kernel
theorem dX3_leastOf_18 : decode cX3_leastOf 18 = .ok (.aload_n 0, 1) := by decide +kernel
theorem dX3_leastOf_19 : decode cX3_leastOf 19 = .ok (.iload_n 3, 1) := by decide +kernel
theorem dX3_leastOf_20 : decode cX3_leastOf 20 = .ok (.iload_n 1, 1) := by decide +kernel
theorem dX3_leastOf_21 : decode cX3_leastOf 21 = .ok (.invokevirtual 118, 3) := by decide +kernel
theorem dX3_leastOf_24 : decode cX3_leastOf 24 = .ok (.istore 4, 2) := by decide +kernel
theorem dX3_leastOf_26 : decode cX3_leastOf 26 = .ok (.iload 4, 2) := by decide +kernel
theorem dX3_leastOf_28 : decode cX3_leastOf 28 = .ok (.iload_n 2, 1) := by decide +kernel
theorem dX3_leastOf_29 : decode cX3_leastOf 29 = .ok (.if_icmp .ge 8, 3) := by decide +kernel
theorem dX3_leastOf_32 : decode cX3_leastOf 32 = .ok (.iload 4, 2) := by decide +kernel
theorem dX3_leastOf_34 : decode cX3_leastOf 34 = .ok (.goto 4, 3) := by decide +kernel
theorem dX3_leastOf_37 : decode cX3_leastOf 37 = .ok (.iload_n 2, 1) := by decide +kernel
theorem dX3_leastOf_38 : decode cX3_leastOf 38 = .ok (.istore_n 2, 1) := by decide +kernel
theorem dX3_leastOf_39 : decode cX3_leastOf 39 = .ok (.iinc 3 10, 3) := by decide +kernel
theorem dX3_leastOf_42 : decode cX3_leastOf 42 = .ok (.goto (-32), 3) := by decide +kernel
theorem dX3_leastOf_45 : decode cX3_leastOf 45 = .ok (.iload_n 2, 1) := by decide +kernel
theorem dX3_leastOf_46 : decode cX3_leastOf 46 = .ok (.ireturn, 1) := by decide +kernel
set_option maxRecDepth 20000 in
theorem ggX3_evenness_X3_meanOf : GoodIn wsX3_evenness wsX3_meanOf := goodIn_r _ [6, 7, 8, 9, 10, 11, 5, 12, 13, 14, 15, 16, 17, 22, 23, 24, 25, 26, 27, 28, 29, 30, 31, 32, 33, 34, 35, 36, 37, 38] (by decide +kernel) (by decide +kernel)
set_option maxRecDepth 20000 in
theorem gX3_evenness_X3_meanOf : GoodIn wsX3_evenness (wsV RX3 123 RX3 yX3_meanOf wsX3_meanOf) := goodIn_app (goodIn_of _ (by decide +kernel)) ggX3_evenness_X3_meanOf
set_option maxRecDepth 20000 in
theorem ggX3_evenness_X3_leastOf : GoodIn wsX3_evenness wsX3_leastOf := goodIn_r _ [21, 7, 9, 10, 11, 5, 12, 13, 14, 15, 16, 17, 22, 23, 24, 25, 26, 27, 28, 29, 30, 31, 32, 33, 34, 35, 36, 37, 38] (by decide +kernel) (by decide +kernel)
set_option maxRecDepth 20000 in
theorem gX3_evenness_X3_leastOf : GoodIn wsX3_evenness (wsV RX3 128 RX3 yX3_leastOf wsX3_leastOf) := goodIn_app (goodIn_of _ (by decide +kernel)) ggX3_evenness_X3_leastOf
theorem dX3_evenness_0 : decode cX3_evenness 0 = .ok (.aload_n 0, 1) := by decide +kernel
theorem dX3_evenness_1 : decode cX3_evenness 1 = .ok (.iload_n 1, 1) := by decide +kernel
theorem dX3_evenness_2 : decode cX3_evenness 2 = .ok (.bipush 100, 2) := by decide +kernel
theorem dX3_evenness_4 : decode cX3_evenness 4 = .ok (.invokevirtual 123, 3) := by decide +kernel
theorem dX3_evenness_7 : decode cX3_evenness 7 = .ok (.istore_n 2, 1) := by decide +kernel
theorem dX3_evenness_8 : decode cX3_evenness 8 = .ok (.iload_n 2, 1) := by decide +kernel
theorem dX3_evenness_9 : decode cX3_evenness 9 = .ok (.ifCond .ne 7, 3) := by decide +kernel
theorem dX3_evenness_12 : decode cX3_evenness 12 = .ok (.iconst 0, 1) := by decide +kernel
theorem dX3_evenness_13 : decode cX3_evenness 13 = .ok (.goto 17, 3) := by decide +kernel
theorem dX3_evenness_16 : decode cX3_evenness 16 = .ok (.ldc2_w 126, 3) := by decide +kernel
theorem dX3_evenness_19 : decode cX3_evenness 19 = .ok (.aload_n 0, 1) := by decide +kernel
theorem dX3_evenness_20 : decode cX3_evenness 20 = .ok (.iload_n 1, 1) := by decide +kernel
theorem dX3_evenness_21 : decode cX3_evenness 21 = .ok (.invokevirtual 128, 3) := by decide +kernel
theorem dX3_evenness_24 : decode cX3_evenness 24 = .ok (.i2l, 1) := by decide +kernel
theorem dX3_evenness_25 : decode cX3_evenness 25 = .ok (.lmul, 1) := by decide +kernel
theorem dX3_evenness_26 : decode cX3_evenness 26 = .ok (.iload_n 2, 1) := by decide +kernel
theorem dX3_evenness_27 : decode cX3_evenness 27 = .ok (.i2l, 1) := by decide +kernel
theorem dX3_evenness_28 : decode cX3_evenness 28 = .ok (.ldiv, 1) := by decide +kernel
theorem dX3_evenness_29 : decode cX3_evenness 29 = .ok (.l2i, 1) := by decide +kernel
theorem dX3_evenness_30 : decode cX3_evenness 30 = .ok (.ireturn, 1) := by decide +kernel
theorem dX3_poles_0 : decode cX3_poles 0 = .ok (.aload_n 0, 1) := by decide +kernel
theorem dX3_poles_1 : decode cX3_poles 1 = .ok (.getfield 112, 3) := by decide +kernel
theorem dX3_poles_4 : decode cX3_poles 4 = .ok (.iload_n 1, 1) := by decide +kernel
theorem dX3_poles_5 : decode cX3_poles 5 = .ok (.idiv, 1) := by decide +kernel
theorem dX3_poles_6 : decode cX3_poles 6 = .ok (.iconst 1, 1) := by decide +kernel
theorem dX3_poles_7 : decode cX3_poles 7 = .ok (.iadd, 1) := by decide +kernel
theorem dX3_poles_8 : decode cX3_poles 8 = .ok (.ireturn, 1) := by decide +kernel
set_option maxRecDepth 20000 in
theorem ggX3_row_X3_isSpacing : GoodIn wsX3_row wsX3_isSpacing := goodIn_r _ [4, 5, 6, 3, 7] (by decide +kernel) (by decide +kernel)
set_option maxRecDepth 20000 in
theorem gX3_row_X3_isSpacing : GoodIn wsX3_row (va_wsS RX3 115 yX3_isSpacing wsX3_isSpacing) := goodIn_app (goodIn_of _ (by decide +kernel)) ggX3_row_X3_isSpacing
set_option maxRecDepth 20000 in
theorem ggX3_row_X3_within : GoodIn wsX3_row wsX3_within := goodIn_r _ [7] (by decide +kernel) (by decide +kernel)
set_option maxRecDepth 20000 in
theorem gX3_row_X3_within : GoodIn wsX3_row (va_wsS RX3 50 yX3_within wsX3_within) := goodIn_app (goodIn_of _ (by decide +kernel)) ggX3_row_X3_within
set_option maxRecDepth 20000 in
theorem ggX3_row_X3_leastOf : GoodIn wsX3_row wsX3_leastOf := goodIn_r _ [11, 12, 13, 14, 15, 3, 16, 17, 18, 19, 20, 21, 36, 37, 38, 39, 40, 41, 42, 43, 44, 45, 46, 47, 48, 49, 50, 51, 52] (by decide +kernel) (by decide +kernel)
set_option maxRecDepth 20000 in
theorem gX3_row_X3_leastOf : GoodIn wsX3_row (wsV RX3 128 RX3 yX3_leastOf wsX3_leastOf) := goodIn_app (goodIn_of _ (by decide +kernel)) ggX3_row_X3_leastOf
set_option maxRecDepth 20000 in
theorem ggX3_row_X3_meanOf : GoodIn wsX3_row wsX3_meanOf := goodIn_r _ [25, 12, 26, 13, 14, 15, 3, 16, 17, 18, 19, 20, 21, 36, 37, 38, 39, 40, 41, 42, 43, 44, 45, 46, 47, 48, 49, 50, 51, 52] (by decide +kernel) (by decide +kernel)
set_option maxRecDepth 20000 in
theorem gX3_row_X3_meanOf : GoodIn wsX3_row (wsV RX3 123 RX3 yX3_meanOf wsX3_meanOf) := goodIn_app (goodIn_of _ (by decide +kernel)) ggX3_row_X3_meanOf
set_option maxRecDepth 20000 in
theorem ggX3_row_X3_evenness : GoodIn wsX3_row wsX3_evenness := goodIn_r _ [30, 31, 22, 23, 24, 3, 25, 12, 26, 13, 14, 15, 16, 17, 18, 19, 20, 21, 8, 9, 10, 11, 36, 37, 38, 39, 40, 41, 42, 43, 44, 45, 46, 47, 48, 49, 50, 51, 52] (by decide +kernel) (by decide +kernel)
set_option maxRecDepth 20000 in
theorem gX3_row_X3_evenness : GoodIn wsX3_row (wsV RX3 131 RX3 yX3_evenness wsX3_evenness) := goodIn_app (goodIn_of _ (by decide +kernel)) ggX3_row_X3_evenness
set_option maxRecDepth 20000 in
theorem ggX3_row_X3_poles : GoodIn wsX3_row wsX3_poles := goodIn_r _ [35, 12, 36, 37, 38, 39, 40, 41, 42, 43, 44, 45, 46, 47, 48, 49, 50, 51, 52] (by decide +kernel) (by decide +kernel)
set_option maxRecDepth 20000 in
theorem gX3_row_X3_poles : GoodIn wsX3_row (wsV RX3 134 RX3 yX3_poles wsX3_poles) := goodIn_app (goodIn_of _ (by decide +kernel)) ggX3_row_X3_poles
theorem dX3_row_0 : decode cX3_row 0 = .ok (.iload_n 1, 1) := by decide +kernel
theorem dX3_row_1 : decode cX3_row 1 = .ok (.invokestatic 115, 3) := by decide +kernel
theorem dX3_row_4 : decode cX3_row 4 = .ok (.ifCond .eq 12, 3) := by decide +kernel
theorem dX3_row_7 : decode cX3_row 7 = .ok (.iload_n 2, 1) := by decide +kernel
theorem dX3_row_8 : decode cX3_row 8 = .ok (.iconst 0, 1) := by decide +kernel
theorem dX3_row_9 : decode cX3_row 9 = .ok (.iconst 3, 1) := by decide +kernel
theorem dX3_row_10 : decode cX3_row 10 = .ok (.invokestatic 50, 3) := by decide +kernel
theorem dX3_row_13 : decode cX3_row 13 = .ok (.ifCond .ne 5, 3) := by decide +kernel
theorem dX3_row_16 : decode cX3_row 16 = .ok (.iconst (-1), 1) := by decide +kernel
theorem dX3_row_17 : decode cX3_row 17 = .ok (.ireturn, 1) := by decide +kernel
theorem dX3_row_18 : decode cX3_row 18 = .ok (.iload_n 2, 1) := by decide +kernel
theorem dX3_row_19 : decode cX3_row 19 = .ok (.ifCond .ne 11, 3) := by decide +kernel
theorem dX3_row_22 : decode cX3_row 22 = .ok (.aload_n 0, 1) := by decide +kernel
theorem dX3_row_23 : decode cX3_row 23 = .ok (.iload_n 1, 1) := by decide +kernel
theorem dX3_row_24 : decode cX3_row 24 = .ok (.invokevirtual 128, 3) := by decide +kernel
theorem dX3_row_27 : decode cX3_row 27 = .ok (.goto 36, 3) := by decide +kernel
theorem dX3_row_30 : decode cX3_row 30 = .ok (.iload_n 2, 1) := by decide +kernel
theorem dX3_row_31 : decode cX3_row 31 = .ok (.iconst 1, 1) := by decide +kernel
theorem dX3_row_32 : decode cX3_row 32 = .ok (.if_icmp .ne 13, 3) := by decide +kernel
theorem dX3_row_35 : decode cX3_row 35 = .ok (.aload_n 0, 1) := by decide +kernel
theorem dX3_row_36 : decode cX3_row 36 = .ok (.iload_n 1, 1) := by decide +kernel
theorem dX3_row_37 : decode cX3_row 37 = .ok (.bipush 100, 2) := by decide +kernel
theorem dX3_row_39 : decode cX3_row 39 = .ok (.invokevirtual 123, 3) := by decide +kernel
theorem dX3_row_42 : decode cX3_row 42 = .ok (.goto 21, 3) := by decide +kernel
theorem dX3_row_45 : decode cX3_row 45 = .ok (.iload_n 2, 1) := by decide +kernel
theorem dX3_row_46 : decode cX3_row 46 = .ok (.iconst 2, 1) := by decide +kernel
theorem dX3_row_47 : decode cX3_row 47 = .ok (.if_icmp .ne 11, 3) := by decide +kernel
theorem dX3_row_50 : decode cX3_row 50 = .ok (.aload_n 0, 1) := by decide +kernel
theorem dX3_row_51 : decode cX3_row 51 = .ok (.iload_n 1, 1) := by decide +kernel
theorem dX3_row_52 : decode cX3_row 52 = .ok (.invokevirtual 131, 3) := by decide +kernel
theorem dX3_row_55 : decode cX3_row 55 = .ok (.goto 8, 3) := by decide +kernel
theorem dX3_row_58 : decode cX3_row 58 = .ok (.aload_n 0, 1) := by decide +kernel
theorem dX3_row_59 : decode cX3_row 59 = .ok (.iload_n 1, 1) := by decide +kernel
theorem dX3_row_60 : decode cX3_row 60 = .ok (.invokevirtual 134, 3) := by decide +kernel
theorem dX3_row_63 : decode cX3_row 63 = .ok (.ireturn, 1) := by decide +kernel
set_option maxRecDepth 20000 in
theorem ggX3_spacing_X3_meanOf : GoodIn wsX3_spacing wsX3_meanOf := goodIn_r _ [5, 6, 7, 8, 9, 10, 4, 11, 12, 13, 14, 15, 16, 26, 27, 28, 29, 30, 31, 32, 33, 34, 35, 36, 37, 38, 39, 40, 41, 42] (by decide +kernel) (by decide +kernel)
set_option maxRecDepth 20000 in
theorem gX3_spacing_X3_meanOf : GoodIn wsX3_spacing (wsV RX3 123 RX3 yX3_meanOf wsX3_meanOf) := goodIn_app (goodIn_of _ (by decide +kernel)) ggX3_spacing_X3_meanOf
set_option maxRecDepth 20000 in
theorem ggX3_spacing_X3_evenness : GoodIn wsX3_spacing wsX3_evenness := goodIn_r _ [20, 21, 1, 2, 3, 4, 5, 6, 7, 8, 9, 10, 11, 12, 13, 14, 15, 16, 22, 23, 24, 25, 26, 27, 28, 29, 30, 31, 32, 33, 34, 35, 36, 37, 38, 39, 40, 41, 42] (by decide +kernel) (by decide +kernel)
set_option maxRecDepth 20000 in
theorem gX3_spacing_X3_evenness : GoodIn wsX3_spacing (wsV RX3 131 RX3 yX3_evenness wsX3_evenness) := goodIn_app (goodIn_of _ (by decide +kernel)) ggX3_spacing_X3_evenness
theorem dX3_spacing_0 : decode cX3_spacing 0 = .ok (.sipush 600, 3) := by decide +kernel
theorem dX3_spacing_3 : decode cX3_spacing 3 = .ok (.istore_n 3, 1) := by decide +kernel
theorem dX3_spacing_4 : decode cX3_spacing 4 = .ok (.iload_n 3, 1) := by decide +kernel
theorem dX3_spacing_5 : decode cX3_spacing 5 = .ok (.ifCond .le 31, 3) := by decide +kernel
theorem dX3_spacing_8 : decode cX3_spacing 8 = .ok (.aload_n 0, 1) := by decide +kernel
theorem dX3_spacing_9 : decode cX3_spacing 9 = .ok (.iload_n 3, 1) := by decide +kernel
theorem dX3_spacing_10 : decode cX3_spacing 10 = .ok (.bipush 100, 2) := by decide +kernel
theorem dX3_spacing_12 : decode cX3_spacing 12 = .ok (.invokevirtual 123, 3) := by decide +kernel
theorem dX3_spacing_15 : decode cX3_spacing 15 = .ok (.iload_n 1, 1) := by decide +kernel
theorem dX3_spacing_16 : decode cX3_spacing 16 = .ok (.if_icmp .lt 14, 3) := by decide +kernel
theorem dX3_spacing_19 : decode cX3_spacing 19 = .ok (.aload_n 0, 1) := by decide +kernel
theorem dX3_spacing_20 : decode cX3_spacing 20 = .ok (.iload_n 3, 1) := by decide +kernel
theorem dX3_spacing_21 : decode cX3_spacing 21 = .ok (.invokevirtual 131, 3) := by decide +kernel
theorem dX3_spacing_24 : decode cX3_spacing 24 = .ok (.iload_n 2, 1) := by decide +kernel
theorem dX3_spacing_25 : decode cX3_spacing 25 = .ok (.if_icmp .lt 5, 3) := by decide +kernel
theorem dX3_spacing_28 : decode cX3_spacing 28 = .ok (.iload_n 3, 1) := by decide +kernel
theorem dX3_spacing_29 : decode cX3_spacing 29 = .ok (.ireturn, 1) := by decide +kernel
theorem dX3_spacing_30 : decode cX3_spacing 30 = .ok (.iinc 3 (-10), 3) := by decide +kernel
theorem dX3_spacing_33 : decode cX3_spacing 33 = .ok (.goto (-29), 3) := by decide +kernel
theorem dX3_spacing_36 : decode cX3_spacing 36 = .ok (.iconst (-1), 1) := by decide +kernel
theorem dX3_spacing_37 : decode cX3_spacing 37 = .ok (.ireturn, 1) := by decide +kernel
set_option maxRecDepth 20000 in
theorem ggX3_dark_X3_isSpacing : GoodIn wsX3_dark wsX3_isSpacing := goodIn_r _ [5, 6, 7, 4, 8] (by decide +kernel) (by decide +kernel)
set_option maxRecDepth 20000 in
theorem gX3_dark_X3_isSpacing : GoodIn wsX3_dark (va_wsS RX3 115 yX3_isSpacing wsX3_isSpacing) := goodIn_app (goodIn_of _ (by decide +kernel)) ggX3_dark_X3_isSpacing
set_option maxRecDepth 20000 in
theorem ggX3_dark_X3_meanOf : GoodIn wsX3_dark wsX3_meanOf := goodIn_r _ [12, 13, 14, 15, 16, 17, 4, 18, 19, 20, 21, 22, 23, 24, 25, 26, 27, 28, 29, 30, 31, 32, 33, 34, 35, 36, 37, 38, 39, 40] (by decide +kernel) (by decide +kernel)
set_option maxRecDepth 20000 in
theorem gX3_dark_X3_meanOf : GoodIn wsX3_dark (wsV RX3 123 RX3 yX3_meanOf wsX3_meanOf) := goodIn_app (goodIn_of _ (by decide +kernel)) ggX3_dark_X3_meanOf
theorem dX3_dark_0 : decode cX3_dark 0 = .ok (.iload_n 1, 1) := by decide +kernel
theorem dX3_dark_1 : decode cX3_dark 1 = .ok (.invokestatic 115, 3) := by decide +kernel
theorem dX3_dark_4 : decode cX3_dark 4 = .ok (.ifCond .ne 5, 3) := by decide +kernel
theorem dX3_dark_7 : decode cX3_dark 7 = .ok (.iconst (-1), 1) := by decide +kernel
theorem dX3_dark_8 : decode cX3_dark 8 = .ok (.ireturn, 1) := by decide +kernel
theorem dX3_dark_9 : decode cX3_dark 9 = .ok (.iconst 0, 1) := by decide +kernel
theorem dX3_dark_10 : decode cX3_dark 10 = .ok (.istore_n 3, 1) := by decide +kernel
theorem dX3_dark_11 : decode cX3_dark 11 = .ok (.iconst 0, 1) := by decide +kernel
theorem dX3_dark_12 : decode cX3_dark 12 = .ok (.istore 4, 2) := by decide +kernel
theorem dX3_dark_14 : decode cX3_dark 14 = .ok (.iload 4, 2) := by decide +kernel
theorem dX3_dark_16 : decode cX3_dark 16 = .ok (.bipush 24, 2) := by decide +kernel
theorem dX3_dark_18 : decode cX3_dark 18 = .ok (.if_icmp .ge 33, 3) := by decide +kernel
theorem dX3_dark_21 : decode cX3_dark 21 = .ok (.iload_n 3, 1) := by decide +kernel
theorem dX3_dark_22 : decode cX3_dark 22 = .ok (.aload_n 0, 1) := by decide +kernel
theorem dX3_dark_23 : decode cX3_dark 23 = .ok (.iload_n 1, 1) := by decide +kernel
theorem dX3_dark_24 : decode cX3_dark 24 = .ok (.aload_n 0, 1) := by decide +kernel
theorem dX3_dark_25 : decode cX3_dark 25 = .ok (.getfield 44, 3) := by decide +kernel
theorem dX3_dark_28 : decode cX3_dark 28 = .ok (.iload 4, 2) := by decide +kernel
theorem dX3_dark_30 : decode cX3_dark 30 = .ok (.iaload, 1) := by decide +kernel
theorem dX3_dark_31 : decode cX3_dark 31 = .ok (.invokevirtual 123, 3) := by decide +kernel
theorem dX3_dark_34 : decode cX3_dark 34 = .ok (.iload_n 2, 1) := by decide +kernel
theorem dX3_dark_35 : decode cX3_dark 35 = .ok (.if_icmp .ge 7, 3) := by decide +kernel
theorem dX3_dark_38 : decode cX3_dark 38 = .ok (.iconst 1, 1) := by decide +kernel
theorem dX3_dark_39 : decode cX3_dark 39 = .ok (.goto 4, 3) := by decide +kernel
theorem dX3_dark_42 : decode cX3_dark 42 = .ok (.iconst 0, 1) := by decide +kernel
theorem dX3_dark_43 : decode cX3_dark 43 = .ok (.iadd, 1) := by decide +kernel
theorem dX3_dark_44 : decode cX3_dark 44 = .ok (.istore_n 3, 1) := by decide +kernel
theorem dX3_dark_45 : decode cX3_dark 45 = .ok (.iinc 4 1, 3) := by decide +kernel
theorem dX3_dark_48 : decode cX3_dark 48 = .ok (.goto (-34), 3) := by decide +kernel
theorem dX3_dark_51 : decode cX3_dark 51 = .ok (.iload_n 3, 1) := by decide +kernel
theorem dX3_dark_52 : decode cX3_dark 52 = .ok (.ireturn, 1) := by decide +kernel
set_option maxRecDepth 20000 in
theorem ggX3_dropOf_X3_poles : GoodIn wsX3_dropOf wsX3_poles := goodIn_r _ [6, 7, 8, 9, 10, 11, 12, 13, 14, 15, 16, 17, 18, 19, 20, 21, 22, 23, 24] (by decide +kernel) (by decide +kernel)
set_option maxRecDepth 20000 in
theorem gX3_dropOf_X3_poles : GoodIn wsX3_dropOf (wsV RX3 134 RX3 yX3_poles wsX3_poles) := goodIn_app (goodIn_of _ (by decide +kernel)) ggX3_dropOf_X3_poles
theorem dX3_dropOf_0 : decode cX3_dropOf 0 = .ok (.lconst 0, 1) := by decide +kernel
theorem dX3_dropOf_1 : decode cX3_dropOf 1 = .ok (.lstore 4, 2) := by decide +kernel
theorem dX3_dropOf_3 : decode cX3_dropOf 3 = .ok (.aload_n 0, 1) := by decide +kernel
theorem dX3_dropOf_4 : decode cX3_dropOf 4 = .ok (.iload_n 1, 1) := by decide +kernel
theorem dX3_dropOf_5 : decode cX3_dropOf 5 = .ok (.invokevirtual 134, 3) := by decide +kernel
theorem dX3_dropOf_8 : decode cX3_dropOf 8 = .ok (.iconst 1, 1) := by decide +kernel
theorem dX3_dropOf_9 : decode cX3_dropOf 9 = .ok (.isub, 1) := by decide +kernel
theorem dX3_dropOf_10 : decode cX3_dropOf 10 = .ok (.istore 6, 2) := by decide +kernel
theorem dX3_dropOf_12 : decode cX3_dropOf 12 = .ok (.iload 6, 2) := by decide +kernel
theorem dX3_dropOf_14 : decode cX3_dropOf 14 = .ok (.ifCond .le 26, 3) := by decide +kernel
theorem dX3_dropOf_17 : decode cX3_dropOf 17 = .ok (.lload 4, 2) := by decide +kernel
theorem dX3_dropOf_19 : decode cX3_dropOf 19 = .ok (.iload_n 2, 1) := by decide +kernel
theorem dX3_dropOf_20 : decode cX3_dropOf 20 = .ok (.i2l, 1) := by decide +kernel
theorem dX3_dropOf_21 : decode cX3_dropOf 21 = .ok (.iload 6, 2) := by decide +kernel
theorem dX3_dropOf_23 : decode cX3_dropOf 23 = .ok (.i2l, 1) := by decide +kernel
theorem dX3_dropOf_24 : decode cX3_dropOf 24 = .ok (.lmul, 1) := by decide +kernel
theorem dX3_dropOf_25 : decode cX3_dropOf 25 = .ok (.iload_n 3, 1) := by decide +kernel
theorem dX3_dropOf_26 : decode cX3_dropOf 26 = .ok (.i2l, 1) := by decide +kernel
theorem dX3_dropOf_27 : decode cX3_dropOf 27 = .ok (.lmul, 1) := by decide +kernel
theorem dX3_dropOf_28 : decode cX3_dropOf 28 = .ok (.iload_n 1, 1) := by decide +kernel
theorem dX3_dropOf_29 : decode cX3_dropOf 29 = .ok (.i2l, 1) := by decide +kernel
theorem dX3_dropOf_30 : decode cX3_dropOf 30 = .ok (.lmul, 1) := by decide +kernel
theorem dX3_dropOf_31 : decode cX3_dropOf 31 = .ok (.ladd, 1) := by decide +kernel
theorem dX3_dropOf_32 : decode cX3_dropOf 32 = .ok (.lstore 4, 2) := by decide +kernel
theorem dX3_dropOf_34 : decode cX3_dropOf 34 = .ok (.iinc 6 (-1), 3) := by decide +kernel
theorem dX3_dropOf_37 : decode cX3_dropOf 37 = .ok (.goto (-25), 3) := by decide +kernel
theorem dX3_dropOf_40 : decode cX3_dropOf 40 = .ok (.lload 4, 2) := by decide +kernel
theorem dX3_dropOf_42 : decode cX3_dropOf 42 = .ok (.ldc2_w 137, 3) := by decide +kernel
theorem dX3_dropOf_45 : decode cX3_dropOf 45 = .ok (.ldiv, 1) := by decide +kernel
theorem dX3_dropOf_46 : decode cX3_dropOf 46 = .ok (.lreturn, 1) := by decide +kernel
set_option maxRecDepth 20000 in
theorem ggX3_isWire_X3_within : GoodIn wsX3_isWire wsX3_within := goodIn_r _ [4] (by decide +kernel) (by decide +kernel)
set_option maxRecDepth 20000 in
theorem gX3_isWire_X3_within : GoodIn wsX3_isWire (va_wsS RX3 50 yX3_within wsX3_within) := goodIn_app (goodIn_of _ (by decide +kernel)) ggX3_isWire_X3_within
theorem dX3_isWire_0 : decode cX3_isWire 0 = .ok (.iload_n 0, 1) := by decide +kernel
theorem dX3_isWire_1 : decode cX3_isWire 1 = .ok (.iconst 0, 1) := by decide +kernel
theorem dX3_isWire_2 : decode cX3_isWire 2 = .ok (.sipush 20000, 3) := by decide +kernel
theorem dX3_isWire_5 : decode cX3_isWire 5 = .ok (.invokestatic 50, 3) := by decide +kernel
theorem dX3_isWire_8 : decode cX3_isWire 8 = .ok (.ifCond .eq 18, 3) := by decide +kernel
theorem dX3_isWire_11 : decode cX3_isWire 11 = .ok (.iload_n 1, 1) := by decide +kernel
theorem dX3_isWire_12 : decode cX3_isWire 12 = .ok (.iconst 0, 1) := by decide +kernel
theorem dX3_isWire_13 : decode cX3_isWire 13 = .ok (.sipush 10000, 3) := by decide +kernel
theorem dX3_isWire_16 : decode cX3_isWire 16 = .ok (.invokestatic 50, 3) := by decide +kernel
theorem dX3_isWire_19 : decode cX3_isWire 19 = .ok (.ifCond .eq 7, 3) := by decide +kernel
theorem dX3_isWire_22 : decode cX3_isWire 22 = .ok (.iconst 1, 1) := by decide +kernel
theorem dX3_isWire_23 : decode cX3_isWire 23 = .ok (.goto 4, 3) := by decide +kernel
theorem dX3_isWire_26 : decode cX3_isWire 26 = .ok (.iconst 0, 1) := by decide +kernel
theorem dX3_isWire_27 : decode cX3_isWire 27 = .ok (.ireturn, 1) := by decide +kernel
set_option maxRecDepth 20000 in
theorem ggX3_drop_X3_isSpacing : GoodIn wsX3_drop wsX3_isSpacing := goodIn_r _ [4, 5, 6, 3, 7] (by decide +kernel) (by decide +kernel)
set_option maxRecDepth 20000 in
theorem gX3_drop_X3_isSpacing : GoodIn wsX3_drop (va_wsS RX3 115 yX3_isSpacing wsX3_isSpacing) := goodIn_app (goodIn_of _ (by decide +kernel)) ggX3_drop_X3_isSpacing
set_option maxRecDepth 20000 in
theorem ggX3_drop_X3_isWire : GoodIn wsX3_drop wsX3_isWire := goodIn_r _ [10, 5, 6, 3, 7] (by decide +kernel) (by decide +kernel)
set_option maxRecDepth 20000 in
theorem gX3_drop_X3_isWire : GoodIn wsX3_drop (va_wsS RX3 139 yX3_isWire wsX3_isWire) := goodIn_app (goodIn_of _ (by decide +kernel)) ggX3_drop_X3_isWire
set_option maxRecDepth 20000 in
theorem ggX3_drop_X3_dropOf : GoodIn wsX3_drop wsX3_dropOf := goodIn_r _ [14, 15, 16, 17, 18, 3, 19, 20, 21, 22, 23, 24, 25, 26, 27, 28, 29, 30, 31, 32, 33, 34, 35, 36, 37] (by decide +kernel) (by decide +kernel)
set_option maxRecDepth 20000 in
theorem gX3_drop_X3_dropOf : GoodIn wsX3_drop (wsV RX3 142 RX3 yX3_dropOf wsX3_dropOf) := goodIn_app (goodIn_of _ (by decide +kernel)) ggX3_drop_X3_dropOf
theorem dX3_drop_0 : decode cX3_drop 0 = .ok (.iload_n 1, 1) := by decide +kernel
theorem dX3_drop_1 : decode cX3_drop 1 = .ok (.invokestatic 115, 3) := by decide +kernel
theorem dX3_drop_4 : decode cX3_drop 4 = .ok (.ifCond .eq 22, 3) := by decide +kernel
theorem dX3_drop_7 : decode cX3_drop 7 = .ok (.iload_n 2, 1) := by decide +kernel
theorem dX3_drop_8 : decode cX3_drop 8 = .ok (.iload_n 3, 1) := by decide +kernel
theorem dX3_drop_9 : decode cX3_drop 9 = .ok (.invokestatic 139, 3) := by decide +kernel
theorem dX3_drop_12 : decode cX3_drop 12 = .ok (.ifCond .eq 14, 3) := by decide +kernel
theorem dX3_drop_15 : decode cX3_drop 15 = .ok (.aload_n 0, 1) := by decide +kernel
theorem dX3_drop_16 : decode cX3_drop 16 = .ok (.iload_n 1, 1) := by decide +kernel
theorem dX3_drop_17 : decode cX3_drop 17 = .ok (.iload_n 2, 1) := by decide +kernel
theorem dX3_drop_18 : decode cX3_drop 18 = .ok (.iload_n 3, 1) := by decide +kernel
theorem dX3_drop_19 : decode cX3_drop 19 = .ok (.invokevirtual 142, 3) := by decide +kernel
theorem dX3_drop_22 : decode cX3_drop 22 = .ok (.l2i, 1) := by decide +kernel
theorem dX3_drop_23 : decode cX3_drop 23 = .ok (.goto 4, 3) := by decide +kernel
theorem dX3_drop_26 : decode cX3_drop 26 = .ok (.iconst (-1), 1) := by decide +kernel
theorem dX3_drop_27 : decode cX3_drop 27 = .ok (.ireturn, 1) := by decide +kernel
set_option maxRecDepth 20000 in
theorem ggX3_wired_X3_isWire : GoodIn wsX3_wired wsX3_isWire := goodIn_r _ [4, 5, 6, 3, 7] (by decide +kernel) (by decide +kernel)
set_option maxRecDepth 20000 in
theorem gX3_wired_X3_isWire : GoodIn wsX3_wired (va_wsS RX3 139 yX3_isWire wsX3_isWire) := goodIn_app (goodIn_of _ (by decide +kernel)) ggX3_wired_X3_isWire
set_option maxRecDepth 20000 in
theorem ggX3_wired_X3_dropOf : GoodIn wsX3_wired wsX3_dropOf := goodIn_r _ [11, 12, 13, 14, 15, 3, 16, 17, 18, 19, 20, 21, 22, 23, 24, 25, 26, 27, 28, 29, 30, 31, 32, 33, 34] (by decide +kernel) (by decide +kernel)
set_option maxRecDepth 20000 in
theorem gX3_wired_X3_dropOf : GoodIn wsX3_wired (wsV RX3 142 RX3 yX3_dropOf wsX3_dropOf) := goodIn_app (goodIn_of _ (by decide +kernel)) ggX3_wired_X3_dropOf
theorem dX3_wired_0 : decode cX3_wired 0 = .ok (.sipush 600, 3) := by decide +kernel
theorem dX3_wired_3 : decode cX3_wired 3 = .ok (.istore 4, 2) := by decide +kernel
theorem dX3_wired_5 : decode cX3_wired 5 = .ok (.iload 4, 2) := by decide +kernel
theorem dX3_wired_7 : decode cX3_wired 7 = .ok (.ifCond .le 34, 3) := by decide +kernel
theorem dX3_wired_10 : decode cX3_wired 10 = .ok (.iload_n 1, 1) := by decide +kernel
theorem dX3_wired_11 : decode cX3_wired 11 = .ok (.iload_n 2, 1) := by decide +kernel
theorem dX3_wired_12 : decode cX3_wired 12 = .ok (.invokestatic 139, 3) := by decide +kernel
theorem dX3_wired_15 : decode cX3_wired 15 = .ok (.ifCond .eq 26, 3) := by decide +kernel
theorem dX3_wired_18 : decode cX3_wired 18 = .ok (.aload_n 0, 1) := by decide +kernel
theorem dX3_wired_19 : decode cX3_wired 19 = .ok (.iload 4, 2) := by decide +kernel
theorem dX3_wired_21 : decode cX3_wired 21 = .ok (.iload_n 1, 1) := by decide +kernel
theorem dX3_wired_22 : decode cX3_wired 22 = .ok (.iload_n 2, 1) := by decide +kernel
theorem dX3_wired_23 : decode cX3_wired 23 = .ok (.invokevirtual 142, 3) := by decide +kernel
theorem dX3_wired_26 : decode cX3_wired 26 = .ok (.iload_n 3, 1) := by decide +kernel
theorem dX3_wired_27 : decode cX3_wired 27 = .ok (.i2l, 1) := by decide +kernel
theorem dX3_wired_28 : decode cX3_wired 28 = .ok (.lcmp, 1) := by decide +kernel
theorem dX3_wired_29 : decode cX3_wired 29 = .ok (.ifCond .gt 6, 3) := by decide +kernel
theorem dX3_wired_32 : decode cX3_wired 32 = .ok (.iload 4, 2) := by decide +kernel
theorem dX3_wired_34 : decode cX3_wired 34 = .ok (.ireturn, 1) := by decide +kernel
theorem dX3_wired_35 : decode cX3_wired 35 = .ok (.iinc 4 (-10), 3) := by decide +kernel
theorem dX3_wired_38 : decode cX3_wired 38 = .ok (.goto (-33), 3) := by decide +kernel
theorem dX3_wired_41 : decode cX3_wired 41 = .ok (.iconst (-1), 1) := by decide +kernel
theorem dX3_wired_42 : decode cX3_wired 42 = .ok (.ireturn, 1) := by decide +kernel
theorem dX3_count_0 : decode cX3_count 0 = .ok (.iconst 0, 1) := by decide +kernel
theorem dX3_count_1 : decode cX3_count 1 = .ok (.istore_n 2, 1) := by decide +kernel
theorem dX3_count_2 : decode cX3_count 2 = .ok (.iload_n 1, 1) := by decide +kernel
theorem dX3_count_3 : decode cX3_count 3 = .ok (.tableswitch 117 0 5 #[37, 42, 47, 52, 79, 112], 37) := by decide +kernel
theorem dX3_count_40 : decode cX3_count 40 = .ok (.aload_n 0, 1) := by decide +kernel
theorem dX3_count_41 : decode cX3_count 41 = .ok (.getfield 58, 3) := by decide +kernel
theorem dX3_count_44 : decode cX3_count 44 = .ok (.ireturn, 1) := by decide +kernel
theorem dX3_count_45 : decode cX3_count 45 = .ok (.aload_n 0, 1) := by decide +kernel
theorem dX3_count_46 : decode cX3_count 46 = .ok (.getfield 61, 3) := by decide +kernel
theorem dX3_count_49 : decode cX3_count 49 = .ok (.ireturn, 1) := by decide +kernel
theorem dX3_count_50 : decode cX3_count 50 = .ok (.aload_n 0, 1) := by decide +kernel
theorem dX3_count_51 : decode cX3_count 51 = .ok (.getfield 64, 3) := by decide +kernel
theorem dX3_count_54 : decode cX3_count 54 = .ok (.ireturn, 1) := by decide +kernel
theorem dX3_count_55 : decode cX3_count 55 = .ok (.iconst 0, 1) := by decide +kernel
theorem dX3_count_56 : decode cX3_count 56 = .ok (.istore_n 3, 1) := by decide +kernel
theorem dX3_count_57 : decode cX3_count 57 = .ok (.iload_n 3, 1) := by decide +kernel
theorem dX3_count_58 : decode cX3_count 58 = .ok (.aload_n 0, 1) := by decide +kernel
theorem dX3_count_59 : decode cX3_count 59 = .ok (.getfield 61, 3) := by decide +kernel
theorem dX3_count_62 : decode cX3_count 62 = .ok (.if_icmp .ge 18, 3) := by decide +kernel
theorem dX3_count_65 : decode cX3_count 65 = .ok (.iload_n 2, 1) := by decide +kernel
theorem dX3_count_66 : decode cX3_count 66 = .ok (.aload_n 0, 1) := by decide +kernel
theorem dX3_count_67 : decode cX3_count 67 = .ok (.getfield 25, 3) := by decide +kernel
theorem dX3_count_70 : decode cX3_count 70 = .ok (.iload_n 3, 1) := by decide +kernel
theorem dX3_count_71 : decode cX3_count 71 = .ok (.iaload, 1) := by decide +kernel
theorem dX3_count_72 : decode cX3_count 72 = .ok (.iadd, 1) := by decide +kernel
theorem dX3_count_73 : decode cX3_count 73 = .ok (.istore_n 2, 1) := by decide +kernel
theorem dX3_count_74 : decode cX3_count 74 = .ok (.iinc 3 1, 3) := by decide +kernel
theorem dX3_count_77 : decode cX3_count 77 = .ok (.goto (-20), 3) := by decide +kernel
theorem dX3_count_80 : decode cX3_count 80 = .ok (.iload_n 2, 1) := by decide +kernel
theorem dX3_count_81 : decode cX3_count 81 = .ok (.ireturn, 1) := by decide +kernel
theorem dX3_count_82 : decode cX3_count 82 = .ok (.iconst 0, 1) := by decide +kernel
theorem dX3_count_83 : decode cX3_count 83 = .ok (.istore_n 3, 1) := by decide +kernel
theorem dX3_count_84 : decode cX3_count 84 = .ok (.iload_n 3, 1) := by decide +kernel
theorem dX3_count_85 : decode cX3_count 85 = .ok (.bipush 31, 2) := by decide +kernel
theorem dX3_count_87 : decode cX3_count 87 = .ok (.if_icmp .ge 26, 3) := by decide +kernel
theorem dX3_count_90 : decode cX3_count 90 = .ok (.iload_n 2, 1) := by decide +kernel
theorem dX3_count_91 : decode cX3_count 91 = .ok (.aload_n 0, 1) := by decide +kernel
theorem dX3_count_92 : decode cX3_count 92 = .ok (.getfield 41, 3) := by decide +kernel
theorem dX3_count_95 : decode cX3_count 95 = .ok (.iload_n 3, 1) := by decide +kernel
theorem dX3_count_96 : decode cX3_count 96 = .ok (.iaload, 1) := by decide +kernel
theorem dX3_count_97 : decode cX3_count 97 = .ok (.ifCond .le 7, 3) := by decide +kernel
theorem dX3_count_100 : decode cX3_count 100 = .ok (.iconst 1, 1) := by decide +kernel
theorem dX3_count_101 : decode cX3_count 101 = .ok (.goto 4, 3) := by decide +kernel
theorem dX3_count_104 : decode cX3_count 104 = .ok (.iconst 0, 1) := by decide +kernel
theorem dX3_count_105 : decode cX3_count 105 = .ok (.iadd, 1) := by decide +kernel
theorem dX3_count_106 : decode cX3_count 106 = .ok (.istore_n 2, 1) := by decide +kernel
theorem dX3_count_107 : decode cX3_count 107 = .ok (.iinc 3 1, 3) := by decide +kernel
theorem dX3_count_110 : decode cX3_count 110 = .ok (.goto (-26), 3) := by decide +kernel
theorem dX3_count_113 : decode cX3_count 113 = .ok (.iload_n 2, 1) := by decide +kernel
theorem dX3_count_114 : decode cX3_count 114 = .ok (.ireturn, 1) := by decide +kernel
theorem dX3_count_115 : decode cX3_count 115 = .ok (.aload_n 0, 1) := by decide +kernel
theorem dX3_count_116 : decode cX3_count 116 = .ok (.getfield 112, 3) := by decide +kernel
theorem dX3_count_119 : decode cX3_count 119 = .ok (.ireturn, 1) := by decide +kernel
theorem dX3_count_120 : decode cX3_count 120 = .ok (.iconst (-1), 1) := by decide +kernel
theorem dX3_count_121 : decode cX3_count 121 = .ok (.ireturn, 1) := by decide +kernel
