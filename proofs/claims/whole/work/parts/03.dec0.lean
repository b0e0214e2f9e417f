theorem dJ9_abs_0f7a4_0 : decode cJ9_abs_0f7a4 0 = .ok (.iload_n 0, 1) := by decide +kernel
theorem dJ9_abs_0f7a4_1 : decode cJ9_abs_0f7a4 1 = .ok (.ifCond .ge 8, 3) := by decide +kernel
theorem dJ9_abs_0f7a4_4 : decode cJ9_abs_0f7a4 4 = .ok (.iload_n 0, 1) := by decide +kernel
theorem dJ9_abs_0f7a4_5 : decode cJ9_abs_0f7a4 5 = .ok (.ineg, 1) := by decide +kernel
theorem dJ9_abs_0f7a4_6 : decode cJ9_abs_0f7a4 6 = .ok (.goto 4, 3) := by decide +kernel
theorem dJ9_abs_0f7a4_9 : decode cJ9_abs_0f7a4 9 = .ok (.iload_n 0, 1) := by decide +kernel
theorem dJ9_abs_0f7a4_10 : decode cJ9_abs_0f7a4 10 = .ok (.ireturn, 1) := by decide +kernel
theorem dJ9_max_7cf53_0 : decode cJ9_max_7cf53 0 = .ok (.iload_n 0, 1) := by decide +kernel
theorem dJ9_max_7cf53_1 : decode cJ9_max_7cf53 1 = .ok (.iload_n 1, 1) := by decide +kernel
theorem dJ9_max_7cf53_2 : decode cJ9_max_7cf53 2 = .ok (.if_icmp .lt 7, 3) := by decide +kernel
theorem dJ9_max_7cf53_5 : decode cJ9_max_7cf53 5 = .ok (.iload_n 0, 1) := by decide +kernel
theorem dJ9_max_7cf53_6 : decode cJ9_max_7cf53 6 = .ok (.goto 4, 3) := by decide +kernel
theorem dJ9_max_7cf53_9 : decode cJ9_max_7cf53 9 = .ok (.iload_n 1, 1) := by decide +kernel
theorem dJ9_max_7cf53_10 : decode cJ9_max_7cf53 10 = .ok (.ireturn, 1) := by decide +kernel
theorem dJ9_min_7cf53_0 : decode cJ9_min_7cf53 0 = .ok (.iload_n 0, 1) := by decide +kernel
theorem dJ9_min_7cf53_1 : decode cJ9_min_7cf53 1 = .ok (.iload_n 1, 1) := by decide +kernel
theorem dJ9_min_7cf53_2 : decode cJ9_min_7cf53 2 = .ok (.if_icmp .gt 7, 3) := by decide +kernel
theorem dJ9_min_7cf53_5 : decode cJ9_min_7cf53 5 = .ok (.iload_n 0, 1) := by decide +kernel
theorem dJ9_min_7cf53_6 : decode cJ9_min_7cf53 6 = .ok (.goto 4, 3) := by decide +kernel
theorem dJ9_min_7cf53_9 : decode cJ9_min_7cf53 9 = .ok (.iload_n 1, 1) := by decide +kernel
theorem dJ9_min_7cf53_10 : decode cJ9_min_7cf53 10 = .ok (.ireturn, 1) := by decide +kernel
theorem dX0_init_0 : decode cX0_init 0 = .ok (.aload_n 0, 1) := by decide +kernel
theorem dX0_init_1 : decode cX0_init 1 = .ok (.invokespecial 3, 3) := by decide +kernel
theorem dX0_init_4 : decode cX0_init 4 = .ok (.aload_n 0, 1) := by decide +kernel
theorem dX0_init_5 : decode cX0_init 5 = .ok (.bipush 31, 2) := by decide +kernel
theorem dX0_init_7 : decode cX0_init 7 = .ok (.newarray .int, 2) := by decide +kernel
theorem dX0_init_9 : decode cX0_init 9 = .ok (.putfield 9, 3) := by decide +kernel
theorem dX0_init_12 : decode cX0_init 12 = .ok (.aload_n 0, 1) := by decide +kernel
theorem dX0_init_13 : decode cX0_init 13 = .ok (.bipush 24, 2) := by decide +kernel
theorem dX0_init_15 : decode cX0_init 15 = .ok (.newarray .int, 2) := by decide +kernel
theorem dX0_init_17 : decode cX0_init 17 = .ok (.putfield 15, 3) := by decide +kernel
theorem dX0_init_20 : decode cX0_init 20 = .ok (.aload_n 0, 1) := by decide +kernel
theorem dX0_init_21 : decode cX0_init 21 = .ok (.sipush 501, 3) := by decide +kernel
theorem dX0_init_24 : decode cX0_init 24 = .ok (.newarray .int, 2) := by decide +kernel
theorem dX0_init_26 : decode cX0_init 26 = .ok (.putfield 18, 3) := by decide +kernel
theorem dX0_init_29 : decode cX0_init 29 = .ok (.iconst 0, 1) := by decide +kernel
theorem dX0_init_30 : decode cX0_init 30 = .ok (.istore_n 1, 1) := by decide +kernel
theorem dX0_init_31 : decode cX0_init 31 = .ok (.iload_n 1, 1) := by decide +kernel
theorem dX0_init_32 : decode cX0_init 32 = .ok (.bipush 24, 2) := by decide +kernel
theorem dX0_init_34 : decode cX0_init 34 = .ok (.if_icmp .ge 17, 3) := by decide +kernel
theorem dX0_init_37 : decode cX0_init 37 = .ok (.aload_n 0, 1) := by decide +kernel
theorem dX0_init_38 : decode cX0_init 38 = .ok (.getfield 15, 3) := by decide +kernel
theorem dX0_init_41 : decode cX0_init 41 = .ok (.iload_n 1, 1) := by decide +kernel
theorem dX0_init_42 : decode cX0_init 42 = .ok (.bipush 100, 2) := by decide +kernel
theorem dX0_init_44 : decode cX0_init 44 = .ok (.iastore, 1) := by decide +kernel
theorem dX0_init_45 : decode cX0_init 45 = .ok (.iinc 1 1, 3) := by decide +kernel
theorem dX0_init_48 : decode cX0_init 48 = .ok (.goto (-17), 3) := by decide +kernel
theorem dX0_init_51 : decode cX0_init 51 = .ok (.return_, 1) := by decide +kernel
theorem dX0_roadLength_0 : decode cX0_roadLength 0 = .ok (.aload_n 0, 1) := by decide +kernel
theorem dX0_roadLength_1 : decode cX0_roadLength 1 = .ok (.getfield 21, 3) := by decide +kernel
theorem dX0_roadLength_4 : decode cX0_roadLength 4 = .ok (.ireturn, 1) := by decide +kernel
theorem dX0_changeLength_0 : decode cX0_changeLength 0 = .ok (.aload_n 0, 1) := by decide +kernel
theorem dX0_changeLength_1 : decode cX0_changeLength 1 = .ok (.getfield 21, 3) := by decide +kernel
theorem dX0_changeLength_4 : decode cX0_changeLength 4 = .ok (.istore_n 2, 1) := by decide +kernel
theorem dX0_changeLength_5 : decode cX0_changeLength 5 = .ok (.aload_n 0, 1) := by decide +kernel
theorem dX0_changeLength_6 : decode cX0_changeLength 6 = .ok (.iload_n 1, 1) := by decide +kernel
theorem dX0_changeLength_7 : decode cX0_changeLength 7 = .ok (.putfield 21, 3) := by decide +kernel
theorem dX0_changeLength_10 : decode cX0_changeLength 10 = .ok (.iload_n 2, 1) := by decide +kernel
theorem dX0_changeLength_11 : decode cX0_changeLength 11 = .ok (.ireturn, 1) := by decide +kernel
theorem dX0_changeLight_0 : decode cX0_changeLight 0 = .ok (.aload_n 0, 1) := by decide +kernel
theorem dX0_changeLight_1 : decode cX0_changeLight 1 = .ok (.getfield 9, 3) := by decide +kernel
theorem dX0_changeLight_4 : decode cX0_changeLight 4 = .ok (.iload_n 1, 1) := by decide +kernel
theorem dX0_changeLight_5 : decode cX0_changeLight 5 = .ok (.bipush 10, 2) := by decide +kernel
theorem dX0_changeLight_7 : decode cX0_changeLight 7 = .ok (.idiv, 1) := by decide +kernel
theorem dX0_changeLight_8 : decode cX0_changeLight 8 = .ok (.iaload, 1) := by decide +kernel
theorem dX0_changeLight_9 : decode cX0_changeLight 9 = .ok (.istore_n 3, 1) := by decide +kernel
theorem dX0_changeLight_10 : decode cX0_changeLight 10 = .ok (.aload_n 0, 1) := by decide +kernel
theorem dX0_changeLight_11 : decode cX0_changeLight 11 = .ok (.getfield 9, 3) := by decide +kernel
theorem dX0_changeLight_14 : decode cX0_changeLight 14 = .ok (.iload_n 1, 1) := by decide +kernel
theorem dX0_changeLight_15 : decode cX0_changeLight 15 = .ok (.bipush 10, 2) := by decide +kernel
theorem dX0_changeLight_17 : decode cX0_changeLight 17 = .ok (.idiv, 1) := by decide +kernel
theorem dX0_changeLight_18 : decode cX0_changeLight 18 = .ok (.iload_n 2, 1) := by decide +kernel
theorem dX0_changeLight_19 : decode cX0_changeLight 19 = .ok (.iastore, 1) := by decide +kernel
theorem dX0_changeLight_20 : decode cX0_changeLight 20 = .ok (.iload_n 3, 1) := by decide +kernel
theorem dX0_changeLight_21 : decode cX0_changeLight 21 = .ok (.ireturn, 1) := by decide +kernel
theorem dX0_changePercent_0 : decode cX0_changePercent 0 = .ok (.aload_n 0, 1) := by decide +kernel
theorem dX0_changePercent_1 : decode cX0_changePercent 1 = .ok (.getfield 15, 3) := by decide +kernel
theorem dX0_changePercent_4 : decode cX0_changePercent 4 = .ok (.iload_n 1, 1) := by decide +kernel
theorem dX0_changePercent_5 : decode cX0_changePercent 5 = .ok (.iaload, 1) := by decide +kernel
theorem dX0_changePercent_6 : decode cX0_changePercent 6 = .ok (.istore_n 3, 1) := by decide +kernel
theorem dX0_changePercent_7 : decode cX0_changePercent 7 = .ok (.aload_n 0, 1) := by decide +kernel
theorem dX0_changePercent_8 : decode cX0_changePercent 8 = .ok (.getfield 15, 3) := by decide +kernel
theorem dX0_changePercent_11 : decode cX0_changePercent 11 = .ok (.iload_n 1, 1) := by decide +kernel
theorem dX0_changePercent_12 : decode cX0_changePercent 12 = .ok (.iload_n 2, 1) := by decide +kernel
theorem dX0_changePercent_13 : decode cX0_changePercent 13 = .ok (.iastore, 1) := by decide +kernel
theorem dX0_changePercent_14 : decode cX0_changePercent 14 = .ok (.iload_n 3, 1) := by decide +kernel
theorem dX0_changePercent_15 : decode cX0_changePercent 15 = .ok (.ireturn, 1) := by decide +kernel
theorem dX0_litDistances_0 : decode cX0_litDistances 0 = .ok (.iconst 0, 1) := by decide +kernel
theorem dX0_litDistances_1 : decode cX0_litDistances 1 = .ok (.istore_n 1, 1) := by decide +kernel
theorem dX0_litDistances_2 : decode cX0_litDistances 2 = .ok (.iconst 0, 1) := by decide +kernel
theorem dX0_litDistances_3 : decode cX0_litDistances 3 = .ok (.istore_n 2, 1) := by decide +kernel
theorem dX0_litDistances_4 : decode cX0_litDistances 4 = .ok (.iload_n 2, 1) := by decide +kernel
theorem dX0_litDistances_5 : decode cX0_litDistances 5 = .ok (.aload_n 0, 1) := by decide +kernel
theorem dX0_litDistances_6 : decode cX0_litDistances 6 = .ok (.getfield 9, 3) := by decide +kernel
theorem dX0_litDistances_9 : decode cX0_litDistances 9 = .ok (.arraylength, 1) := by decide +kernel
theorem dX0_litDistances_10 : decode cX0_litDistances 10 = .ok (.if_icmp .ge 21, 3) := by decide +kernel
theorem dX0_litDistances_13 : decode cX0_litDistances 13 = .ok (.aload_n 0, 1) := by decide +kernel
theorem dX0_litDistances_14 : decode cX0_litDistances 14 = .ok (.getfield 9, 3) := by decide +kernel
theorem dX0_litDistances_17 : decode cX0_litDistances 17 = .ok (.iload_n 2, 1) := by decide +kernel
theorem dX0_litDistances_18 : decode cX0_litDistances 18 = .ok (.iaload, 1) := by decide +kernel
theorem dX0_litDistances_19 : decode cX0_litDistances 19 = .ok (.ifCond .le 6, 3) := by decide +kernel
theorem dX0_litDistances_22 : decode cX0_litDistances 22 = .ok (.iinc 1 1, 3) := by decide +kernel
theorem dX0_litDistances_25 : decode cX0_litDistances 25 = .ok (.iinc 2 1, 3) := by decide +kernel
theorem dX0_litDistances_28 : decode cX0_litDistances 28 = .ok (.goto (-24), 3) := by decide +kernel
theorem dX0_litDistances_31 : decode cX0_litDistances 31 = .ok (.iload_n 1, 1) := by decide +kernel
theorem dX0_litDistances_32 : decode cX0_litDistances 32 = .ok (.ireturn, 1) := by decide +kernel
theorem dX0_lightFrom_0 : decode cX0_lightFrom 0 = .ok (.iload_n 1, 1) := by decide +kernel
theorem dX0_lightFrom_1 : decode cX0_lightFrom 1 = .ok (.sipush 300, 3) := by decide +kernel
theorem dX0_lightFrom_4 : decode cX0_lightFrom 4 = .ok (.if_icmp .le 5, 3) := by decide +kernel
theorem dX0_lightFrom_7 : decode cX0_lightFrom 7 = .ok (.iconst 0, 1) := by decide +kernel
theorem dX0_lightFrom_8 : decode cX0_lightFrom 8 = .ok (.ireturn, 1) := by decide +kernel
theorem dX0_lightFrom_9 : decode cX0_lightFrom 9 = .ok (.iload_n 1, 1) := by decide +kernel
theorem dX0_lightFrom_10 : decode cX0_lightFrom 10 = .ok (.bipush 10, 2) := by decide +kernel
theorem dX0_lightFrom_12 : decode cX0_lightFrom 12 = .ok (.idiv, 1) := by decide +kernel
theorem dX0_lightFrom_13 : decode cX0_lightFrom 13 = .ok (.istore_n 2, 1) := by decide +kernel
theorem dX0_lightFrom_14 : decode cX0_lightFrom 14 = .ok (.iload_n 1, 1) := by decide +kernel
theorem dX0_lightFrom_15 : decode cX0_lightFrom 15 = .ok (.bipush 10, 2) := by decide +kernel
theorem dX0_lightFrom_17 : decode cX0_lightFrom 17 = .ok (.irem, 1) := by decide +kernel
theorem dX0_lightFrom_18 : decode cX0_lightFrom 18 = .ok (.istore_n 3, 1) := by decide +kernel
theorem dX0_lightFrom_19 : decode cX0_lightFrom 19 = .ok (.iload_n 3, 1) := by decide +kernel
theorem dX0_lightFrom_20 : decode cX0_lightFrom 20 = .ok (.ifCond .ne 10, 3) := by decide +kernel
theorem dX0_lightFrom_23 : decode cX0_lightFrom 23 = .ok (.aload_n 0, 1) := by decide +kernel
theorem dX0_lightFrom_24 : decode cX0_lightFrom 24 = .ok (.getfield 9, 3) := by decide +kernel
theorem dX0_lightFrom_27 : decode cX0_lightFrom 27 = .ok (.iload_n 2, 1) := by decide +kernel
theorem dX0_lightFrom_28 : decode cX0_lightFrom 28 = .ok (.iaload, 1) := by decide +kernel
theorem dX0_lightFrom_29 : decode cX0_lightFrom 29 = .ok (.ireturn, 1) := by decide +kernel
theorem dX0_lightFrom_30 : decode cX0_lightFrom 30 = .ok (.aload_n 0, 1) := by decide +kernel
theorem dX0_lightFrom_31 : decode cX0_lightFrom 31 = .ok (.getfield 9, 3) := by decide +kernel
theorem dX0_lightFrom_34 : decode cX0_lightFrom 34 = .ok (.iload_n 2, 1) := by decide +kernel
theorem dX0_lightFrom_35 : decode cX0_lightFrom 35 = .ok (.iaload, 1) := by decide +kernel
theorem dX0_lightFrom_36 : decode cX0_lightFrom 36 = .ok (.bipush 10, 2) := by decide +kernel
theorem dX0_lightFrom_38 : decode cX0_lightFrom 38 = .ok (.iload_n 3, 1) := by decide +kernel
theorem dX0_lightFrom_39 : decode cX0_lightFrom 39 = .ok (.isub, 1) := by decide +kernel
theorem dX0_lightFrom_40 : decode cX0_lightFrom 40 = .ok (.imul, 1) := by decide +kernel
theorem dX0_lightFrom_41 : decode cX0_lightFrom 41 = .ok (.aload_n 0, 1) := by decide +kernel
theorem dX0_lightFrom_42 : decode cX0_lightFrom 42 = .ok (.getfield 9, 3) := by decide +kernel
theorem dX0_lightFrom_45 : decode cX0_lightFrom 45 = .ok (.iload_n 2, 1) := by decide +kernel
theorem dX0_lightFrom_46 : decode cX0_lightFrom 46 = .ok (.iconst 1, 1) := by decide +kernel
theorem dX0_lightFrom_47 : decode cX0_lightFrom 47 = .ok (.iadd, 1) := by decide +kernel
theorem dX0_lightFrom_48 : decode cX0_lightFrom 48 = .ok (.iaload, 1) := by decide +kernel
theorem dX0_lightFrom_49 : decode cX0_lightFrom 49 = .ok (.iload_n 3, 1) := by decide +kernel
theorem dX0_lightFrom_50 : decode cX0_lightFrom 50 = .ok (.imul, 1) := by decide +kernel
theorem dX0_lightFrom_51 : decode cX0_lightFrom 51 = .ok (.iadd, 1) := by decide +kernel
theorem dX0_lightFrom_52 : decode cX0_lightFrom 52 = .ok (.bipush 10, 2) := by decide +kernel
theorem dX0_lightFrom_54 : decode cX0_lightFrom 54 = .ok (.idiv, 1) := by decide +kernel
theorem dX0_lightFrom_55 : decode cX0_lightFrom 55 = .ok (.ireturn, 1) := by decide +kernel
set_option maxRecDepth 20000 in
theorem ggX0_dimmedLight_X0_lightAt : GoodIn wsX0_dimmedLight wsX0_lightAt := goodIn_r _ [6, 7, 8, 9, 10, 11, 12, 13, 14, 15, 16, 5, 17, 18, 19, 20, 21, 22, 26, 27, 28, 29] (by decide +kernel) (by decide +kernel)
set_option maxRecDepth 20000 in
theorem gX0_dimmedLight_X0_lightAt : GoodIn wsX0_dimmedLight (wsV RX0 25 RX0 yX0_lightAt wsX0_lightAt) := goodIn_app (goodIn_of _ (by decide +kernel)) ggX0_dimmedLight_X0_lightAt
set_option maxRecDepth 20000 in
theorem ggX0_dimmedLight_X0_dimmed : GoodIn wsX0_dimmedLight wsX0_dimmed := goodIn_r _ [25] (by decide +kernel) (by decide +kernel)
set_option maxRecDepth 20000 in
theorem gX0_dimmedLight_X0_dimmed : GoodIn wsX0_dimmedLight (va_wsS RX0 29 yX0_dimmed wsX0_dimmed) := goodIn_app (goodIn_of _ (by decide +kernel)) ggX0_dimmedLight_X0_dimmed
theorem dX0_dimmedLight_0 : decode cX0_dimmedLight 0 = .ok (.aload_n 0, 1) := by decide +kernel
theorem dX0_dimmedLight_1 : decode cX0_dimmedLight 1 = .ok (.iload_n 1, 1) := by decide +kernel
theorem dX0_dimmedLight_2 : decode cX0_dimmedLight 2 = .ok (.iload_n 2, 1) := by decide +kernel
theorem dX0_dimmedLight_3 : decode cX0_dimmedLight 3 = .ok (.invokevirtual 25, 3) := by decide +kernel
theorem dX0_dimmedLight_6 : decode cX0_dimmedLight 6 = .ok (.aload_n 0, 1) := by decide +kernel
theorem dX0_dimmedLight_7 : decode cX0_dimmedLight 7 = .ok (.getfield 15, 3) := by decide +kernel
theorem dX0_dimmedLight_10 : decode cX0_dimmedLight 10 = .ok (.iload_n 3, 1) := by decide +kernel
theorem dX0_dimmedLight_11 : decode cX0_dimmedLight 11 = .ok (.iaload, 1) := by decide +kernel
theorem dX0_dimmedLight_12 : decode cX0_dimmedLight 12 = .ok (.invokestatic 29, 3) := by decide +kernel
theorem dX0_dimmedLight_15 : decode cX0_dimmedLight 15 = .ok (.ireturn, 1) := by decide +kernel
theorem dX0_poles_0 : decode cX0_poles 0 = .ok (.aload_n 0, 1) := by decide +kernel
theorem dX0_poles_1 : decode cX0_poles 1 = .ok (.getfield 21, 3) := by decide +kernel
theorem dX0_poles_4 : decode cX0_poles 4 = .ok (.iload_n 1, 1) := by decide +kernel
theorem dX0_poles_5 : decode cX0_poles 5 = .ok (.idiv, 1) := by decide +kernel
theorem dX0_poles_6 : decode cX0_poles 6 = .ok (.iconst 1, 1) := by decide +kernel
theorem dX0_poles_7 : decode cX0_poles 7 = .ok (.iadd, 1) := by decide +kernel
theorem dX0_poles_8 : decode cX0_poles 8 = .ok (.ireturn, 1) := by decide +kernel
set_option maxRecDepth 20000 in
theorem ggX0_leastLight_X0_lightPlaces : GoodIn wsX0_leastLight wsX0_lightPlaces := goodIn_r _ [5, 6, 7, 8, 9, 4, 10, 11, 12, 13, 14, 15, 16, 17, 18, 19, 20, 21, 22, 23, 24, 25, 26, 27, 28, 29, 30, 35, 36, 37, 38] (by decide +kernel) (by decide +kernel)
set_option maxRecDepth 20000 in
theorem gX0_leastLight_X0_lightPlaces : GoodIn wsX0_leastLight (wsV RX0 32 RX0 yX0_lightPlaces wsX0_lightPlaces) := goodIn_app (goodIn_of _ (by decide +kernel)) ggX0_leastLight_X0_lightPlaces
set_option maxRecDepth 20000 in
theorem ggX0_leastLight_X0_leastOfPlaces : GoodIn wsX0_leastLight wsX0_leastOfPlaces := goodIn_r _ [34, 6, 16, 17, 18, 19, 7, 8, 9, 4, 10, 11, 35, 36, 37, 38] (by decide +kernel) (by decide +kernel)
set_option maxRecDepth 20000 in
theorem gX0_leastLight_X0_leastOfPlaces : GoodIn wsX0_leastLight (wsV RX0 36 RX0 yX0_leastOfPlaces wsX0_leastOfPlaces) := goodIn_app (goodIn_of _ (by decide +kernel)) ggX0_leastLight_X0_leastOfPlaces
theorem dX0_leastLight_0 : decode cX0_leastLight 0 = .ok (.aload_n 0, 1) := by decide +kernel
theorem dX0_leastLight_1 : decode cX0_leastLight 1 = .ok (.iload_n 1, 1) := by decide +kernel
theorem dX0_leastLight_2 : decode cX0_leastLight 2 = .ok (.invokevirtual 32, 3) := by decide +kernel
theorem dX0_leastLight_5 : decode cX0_leastLight 5 = .ok (.aload_n 0, 1) := by decide +kernel
theorem dX0_leastLight_6 : decode cX0_leastLight 6 = .ok (.invokevirtual 36, 3) := by decide +kernel
theorem dX0_leastLight_9 : decode cX0_leastLight 9 = .ok (.ireturn, 1) := by decide +kernel
set_option maxRecDepth 20000 in
theorem ggX0_meanLight_X0_lightPlaces : GoodIn wsX0_meanLight wsX0_lightPlaces := goodIn_r _ [5, 6, 7, 8, 9, 4, 10, 11, 12, 13, 14, 15, 16, 17, 18, 19, 20, 21, 22, 23, 24, 25, 26, 27, 28, 29, 30, 38, 39, 40, 41] (by decide +kernel) (by decide +kernel)
set_option maxRecDepth 20000 in
theorem gX0_meanLight_X0_lightPlaces : GoodIn wsX0_meanLight (wsV RX0 32 RX0 yX0_lightPlaces wsX0_lightPlaces) := goodIn_app (goodIn_of _ (by decide +kernel)) ggX0_meanLight_X0_lightPlaces
set_option maxRecDepth 20000 in
theorem ggX0_meanLight_X0_meanOfPlaces : GoodIn wsX0_meanLight wsX0_meanOfPlaces := goodIn_r _ [34, 6, 7, 8, 9, 4, 10, 11, 35, 36, 37, 38, 39, 40, 41] (by decide +kernel) (by decide +kernel)
set_option maxRecDepth 20000 in
theorem gX0_meanLight_X0_meanOfPlaces : GoodIn wsX0_meanLight (wsV RX0 40 RX0 yX0_meanOfPlaces wsX0_meanOfPlaces) := goodIn_app (goodIn_of _ (by decide +kernel)) ggX0_meanLight_X0_meanOfPlaces
theorem dX0_meanLight_0 : decode cX0_meanLight 0 = .ok (.aload_n 0, 1) := by decide +kernel
theorem dX0_meanLight_1 : decode cX0_meanLight 1 = .ok (.iload_n 1, 1) := by decide +kernel
theorem dX0_meanLight_2 : decode cX0_meanLight 2 = .ok (.invokevirtual 32, 3) := by decide +kernel
theorem dX0_meanLight_5 : decode cX0_meanLight 5 = .ok (.aload_n 0, 1) := by decide +kernel
theorem dX0_meanLight_6 : decode cX0_meanLight 6 = .ok (.bipush 100, 2) := by decide +kernel
theorem dX0_meanLight_8 : decode cX0_meanLight 8 = .ok (.invokevirtual 40, 3) := by decide +kernel
theorem dX0_meanLight_11 : decode cX0_meanLight 11 = .ok (.ireturn, 1) := by decide +kernel
set_option maxRecDepth 20000 in
theorem ggX0_evenness_X0_lightPlaces : GoodIn wsX0_evenness wsX0_lightPlaces := goodIn_r _ [5, 6, 7, 8, 9, 4, 10, 11, 12, 13, 14, 15, 16, 17, 18, 19, 20, 21, 22, 23, 24, 25, 26, 27, 28, 29, 30, 47, 48, 49, 50] (by decide +kernel) (by decide +kernel)
set_option maxRecDepth 20000 in
theorem gX0_evenness_X0_lightPlaces : GoodIn wsX0_evenness (wsV RX0 32 RX0 yX0_lightPlaces wsX0_lightPlaces) := goodIn_app (goodIn_of _ (by decide +kernel)) ggX0_evenness_X0_lightPlaces
set_option maxRecDepth 20000 in
theorem ggX0_evenness_X0_evennessOfPlaces : GoodIn wsX0_evenness wsX0_evennessOfPlaces := goodIn_r _ [34, 35, 36, 37, 38, 4, 39, 6, 7, 8, 9, 10, 11, 40, 41, 42, 43, 44, 45, 46, 16, 17, 18, 19, 47, 48, 49, 50] (by decide +kernel) (by decide +kernel)
set_option maxRecDepth 20000 in
theorem gX0_evenness_X0_evennessOfPlaces : GoodIn wsX0_evenness (wsV RX0 44 RX0 yX0_evennessOfPlaces wsX0_evennessOfPlaces) := goodIn_app (goodIn_of _ (by decide +kernel)) ggX0_evenness_X0_evennessOfPlaces
theorem dX0_evenness_0 : decode cX0_evenness 0 = .ok (.aload_n 0, 1) := by decide +kernel
theorem dX0_evenness_1 : decode cX0_evenness 1 = .ok (.iload_n 1, 1) := by decide +kernel
theorem dX0_evenness_2 : decode cX0_evenness 2 = .ok (.invokevirtual 32, 3) := by decide +kernel
theorem dX0_evenness_5 : decode cX0_evenness 5 = .ok (.aload_n 0, 1) := by decide +kernel
theorem dX0_evenness_6 : decode cX0_evenness 6 = .ok (.invokevirtual 44, 3) := by decide +kernel
theorem dX0_evenness_9 : decode cX0_evenness 9 = .ok (.ireturn, 1) := by decide +kernel
set_option maxRecDepth 20000 in
theorem ggX0_widestGoodSpacing_X0_lightPlaces : GoodIn wsX0_widestGoodSpacing wsX0_lightPlaces := goodIn_r _ [5, 6, 7, 8, 9, 4, 10, 11, 12, 13, 14, 15, 16, 17, 18, 19, 20, 21, 22, 23, 24, 25, 26, 27, 28, 29, 30, 47, 48, 49, 50] (by decide +kernel) (by decide +kernel)
set_option maxRecDepth 20000 in
theorem gX0_widestGoodSpacing_X0_lightPlaces : GoodIn wsX0_widestGoodSpacing (wsV RX0 32 RX0 yX0_lightPlaces wsX0_lightPlaces) := goodIn_app (goodIn_of _ (by decide +kernel)) ggX0_widestGoodSpacing_X0_lightPlaces
set_option maxRecDepth 20000 in
theorem ggX0_widestGoodSpacing_X0_meanOfPlaces : GoodIn wsX0_widestGoodSpacing wsX0_meanOfPlaces := goodIn_r _ [34, 6, 7, 8, 9, 4, 10, 11, 35, 36, 37, 47, 48, 49, 50] (by decide +kernel) (by decide +kernel)
set_option maxRecDepth 20000 in
theorem gX0_widestGoodSpacing_X0_meanOfPlaces : GoodIn wsX0_widestGoodSpacing (wsV RX0 40 RX0 yX0_meanOfPlaces wsX0_meanOfPlaces) := goodIn_app (goodIn_of _ (by decide +kernel)) ggX0_widestGoodSpacing_X0_meanOfPlaces
set_option maxRecDepth 20000 in
theorem ggX0_widestGoodSpacing_X0_evennessOfPlaces : GoodIn wsX0_widestGoodSpacing wsX0_evennessOfPlaces := goodIn_r _ [41, 42, 31, 32, 33, 4, 34, 6, 7, 8, 9, 10, 11, 35, 36, 37, 43, 44, 45, 46, 16, 17, 18, 19, 47, 48, 49, 50] (by decide +kernel) (by decide +kernel)
set_option maxRecDepth 20000 in
theorem gX0_widestGoodSpacing_X0_evennessOfPlaces : GoodIn wsX0_widestGoodSpacing (wsV RX0 44 RX0 yX0_evennessOfPlaces wsX0_evennessOfPlaces) := goodIn_app (goodIn_of _ (by decide +kernel)) ggX0_widestGoodSpacing_X0_evennessOfPlaces
theorem dX0_widestGoodSpacing_0 : decode cX0_widestGoodSpacing 0 = .ok (.sipush 600, 3) := by decide +kernel
theorem dX0_widestGoodSpacing_3 : decode cX0_widestGoodSpacing 3 = .ok (.istore_n 3, 1) := by decide +kernel
theorem dX0_widestGoodSpacing_4 : decode cX0_widestGoodSpacing 4 = .ok (.iload_n 3, 1) := by decide +kernel
theorem dX0_widestGoodSpacing_5 : decode cX0_widestGoodSpacing 5 = .ok (.bipush 10, 2) := by decide +kernel
theorem dX0_widestGoodSpacing_7 : decode cX0_widestGoodSpacing 7 = .ok (.if_icmp .lt 34, 3) := by decide +kernel
theorem dX0_widestGoodSpacing_10 : decode cX0_widestGoodSpacing 10 = .ok (.aload_n 0, 1) := by decide +kernel
theorem dX0_widestGoodSpacing_11 : decode cX0_widestGoodSpacing 11 = .ok (.iload_n 3, 1) := by decide +kernel
theorem dX0_widestGoodSpacing_12 : decode cX0_widestGoodSpacing 12 = .ok (.invokevirtual 32, 3) := by decide +kernel
theorem dX0_widestGoodSpacing_15 : decode cX0_widestGoodSpacing 15 = .ok (.aload_n 0, 1) := by decide +kernel
theorem dX0_widestGoodSpacing_16 : decode cX0_widestGoodSpacing 16 = .ok (.bipush 100, 2) := by decide +kernel
theorem dX0_widestGoodSpacing_18 : decode cX0_widestGoodSpacing 18 = .ok (.invokevirtual 40, 3) := by decide +kernel
theorem dX0_widestGoodSpacing_21 : decode cX0_widestGoodSpacing 21 = .ok (.iload_n 1, 1) := by decide +kernel
theorem dX0_widestGoodSpacing_22 : decode cX0_widestGoodSpacing 22 = .ok (.if_icmp .lt 13, 3) := by decide +kernel
theorem dX0_widestGoodSpacing_25 : decode cX0_widestGoodSpacing 25 = .ok (.aload_n 0, 1) := by decide +kernel
theorem dX0_widestGoodSpacing_26 : decode cX0_widestGoodSpacing 26 = .ok (.invokevirtual 44, 3) := by decide +kernel
theorem dX0_widestGoodSpacing_29 : decode cX0_widestGoodSpacing 29 = .ok (.iload_n 2, 1) := by decide +kernel
theorem dX0_widestGoodSpacing_30 : decode cX0_widestGoodSpacing 30 = .ok (.if_icmp .lt 5, 3) := by decide +kernel
theorem dX0_widestGoodSpacing_33 : decode cX0_widestGoodSpacing 33 = .ok (.iload_n 3, 1) := by decide +kernel
theorem dX0_widestGoodSpacing_34 : decode cX0_widestGoodSpacing 34 = .ok (.ireturn, 1) := by decide +kernel
theorem dX0_widestGoodSpacing_35 : decode cX0_widestGoodSpacing 35 = .ok (.iinc 3 (-10), 3) := by decide +kernel
theorem dX0_widestGoodSpacing_38 : decode cX0_widestGoodSpacing 38 = .ok (.goto (-34), 3) := by decide +kernel
theorem dX0_widestGoodSpacing_41 : decode cX0_widestGoodSpacing 41 = .ok (.iconst (-1), 1) := by decide +kernel
theorem dX0_widestGoodSpacing_42 : decode cX0_widestGoodSpacing 42 = .ok (.ireturn, 1) := by decide +kernel
set_option maxRecDepth 20000 in
theorem ggX0_hoursBelow_X0_lightPlaces : GoodIn wsX0_hoursBelow wsX0_lightPlaces := goodIn_r _ [6, 7, 8, 9, 10, 5, 11, 12, 13, 14, 15, 16, 17, 18, 19, 20, 21, 22, 23, 24, 25, 26, 27, 28, 29, 30, 31, 39, 40, 41, 42] (by decide +kernel) (by decide +kernel)
set_option maxRecDepth 20000 in
theorem gX0_hoursBelow_X0_lightPlaces : GoodIn wsX0_hoursBelow (wsV RX0 32 RX0 yX0_lightPlaces wsX0_lightPlaces) := goodIn_app (goodIn_of _ (by decide +kernel)) ggX0_hoursBelow_X0_lightPlaces
set_option maxRecDepth 20000 in
theorem ggX0_hoursBelow_X0_meanOfPlaces : GoodIn wsX0_hoursBelow wsX0_meanOfPlaces := goodIn_r _ [35, 7, 8, 9, 10, 5, 11, 12, 36, 37, 38, 39, 40, 41, 42] (by decide +kernel) (by decide +kernel)
set_option maxRecDepth 20000 in
theorem gX0_hoursBelow_X0_meanOfPlaces : GoodIn wsX0_hoursBelow (wsV RX0 40 RX0 yX0_meanOfPlaces wsX0_meanOfPlaces) := goodIn_app (goodIn_of _ (by decide +kernel)) ggX0_hoursBelow_X0_meanOfPlaces
theorem dX0_hoursBelow_0 : decode cX0_hoursBelow 0 = .ok (.aload_n 0, 1) := by decide +kernel
theorem dX0_hoursBelow_1 : decode cX0_hoursBelow 1 = .ok (.iload_n 1, 1) := by decide +kernel
theorem dX0_hoursBelow_2 : decode cX0_hoursBelow 2 = .ok (.invokevirtual 32, 3) := by decide +kernel
theorem dX0_hoursBelow_5 : decode cX0_hoursBelow 5 = .ok (.iconst 0, 1) := by decide +kernel
theorem dX0_hoursBelow_6 : decode cX0_hoursBelow 6 = .ok (.istore_n 3, 1) := by decide +kernel
theorem dX0_hoursBelow_7 : decode cX0_hoursBelow 7 = .ok (.iconst 0, 1) := by decide +kernel
theorem dX0_hoursBelow_8 : decode cX0_hoursBelow 8 = .ok (.istore 4, 2) := by decide +kernel
theorem dX0_hoursBelow_10 : decode cX0_hoursBelow 10 = .ok (.iload 4, 2) := by decide +kernel
theorem dX0_hoursBelow_12 : decode cX0_hoursBelow 12 = .ok (.bipush 24, 2) := by decide +kernel
theorem dX0_hoursBelow_14 : decode cX0_hoursBelow 14 = .ok (.if_icmp .ge 27, 3) := by decide +kernel
theorem dX0_hoursBelow_17 : decode cX0_hoursBelow 17 = .ok (.aload_n 0, 1) := by decide +kernel
theorem dX0_hoursBelow_18 : decode cX0_hoursBelow 18 = .ok (.aload_n 0, 1) := by decide +kernel
theorem dX0_hoursBelow_19 : decode cX0_hoursBelow 19 = .ok (.getfield 15, 3) := by decide +kernel
theorem dX0_hoursBelow_22 : decode cX0_hoursBelow 22 = .ok (.iload 4, 2) := by decide +kernel
theorem dX0_hoursBelow_24 : decode cX0_hoursBelow 24 = .ok (.iaload, 1) := by decide +kernel
theorem dX0_hoursBelow_25 : decode cX0_hoursBelow 25 = .ok (.invokevirtual 40, 3) := by decide +kernel
theorem dX0_hoursBelow_28 : decode cX0_hoursBelow 28 = .ok (.iload_n 2, 1) := by decide +kernel
theorem dX0_hoursBelow_29 : decode cX0_hoursBelow 29 = .ok (.if_icmp .ge 6, 3) := by decide +kernel
theorem dX0_hoursBelow_32 : decode cX0_hoursBelow 32 = .ok (.iinc 3 1, 3) := by decide +kernel
theorem dX0_hoursBelow_35 : decode cX0_hoursBelow 35 = .ok (.iinc 4 1, 3) := by decide +kernel
theorem dX0_hoursBelow_38 : decode cX0_hoursBelow 38 = .ok (.goto (-28), 3) := by decide +kernel
theorem dX0_hoursBelow_41 : decode cX0_hoursBelow 41 = .ok (.iload_n 3, 1) := by decide +kernel
theorem dX0_hoursBelow_42 : decode cX0_hoursBelow 42 = .ok (.ireturn, 1) := by decide +kernel
set_option maxRecDepth 20000 in
theorem ggX0_millivolts_X0_poles : GoodIn wsX0_millivolts wsX0_poles := goodIn_r _ [7, 8, 9, 10, 11, 12] (by decide +kernel) (by decide +kernel)
set_option maxRecDepth 20000 in
theorem gX0_millivolts_X0_poles : GoodIn wsX0_millivolts (wsV RX0 47 RX0 yX0_poles wsX0_poles) := goodIn_app (goodIn_of _ (by decide +kernel)) ggX0_millivolts_X0_poles
theorem dX0_millivolts_0 : decode cX0_millivolts 0 = .ok (.aload_n 0, 1) := by decide +kernel
theorem dX0_millivolts_1 : decode cX0_millivolts 1 = .ok (.iload_n 1, 1) := by decide +kernel
theorem dX0_millivolts_2 : decode cX0_millivolts 2 = .ok (.invokevirtual 47, 3) := by decide +kernel
theorem dX0_millivolts_5 : decode cX0_millivolts 5 = .ok (.i2l, 1) := by decide +kernel
theorem dX0_millivolts_6 : decode cX0_millivolts 6 = .ok (.lstore 4, 2) := by decide +kernel
theorem dX0_millivolts_8 : decode cX0_millivolts 8 = .ok (.lload 4, 2) := by decide +kernel
theorem dX0_millivolts_10 : decode cX0_millivolts 10 = .ok (.lload 4, 2) := by decide +kernel
theorem dX0_millivolts_12 : decode cX0_millivolts 12 = .ok (.lconst 1, 1) := by decide +kernel
theorem dX0_millivolts_13 : decode cX0_millivolts 13 = .ok (.lsub, 1) := by decide +kernel
theorem dX0_millivolts_14 : decode cX0_millivolts 14 = .ok (.lmul, 1) := by decide +kernel
theorem dX0_millivolts_15 : decode cX0_millivolts 15 = .ok (.ldc2_w 50, 3) := by decide +kernel
theorem dX0_millivolts_18 : decode cX0_millivolts 18 = .ok (.ldiv, 1) := by decide +kernel
theorem dX0_millivolts_19 : decode cX0_millivolts 19 = .ok (.iload_n 2, 1) := by decide +kernel
theorem dX0_millivolts_20 : decode cX0_millivolts 20 = .ok (.i2l, 1) := by decide +kernel
theorem dX0_millivolts_21 : decode cX0_millivolts 21 = .ok (.lmul, 1) := by decide +kernel
theorem dX0_millivolts_22 : decode cX0_millivolts 22 = .ok (.lstore 6, 2) := by decide +kernel
theorem dX0_millivolts_24 : decode cX0_millivolts 24 = .ok (.lload 6, 2) := by decide +kernel
theorem dX0_millivolts_26 : decode cX0_millivolts 26 = .ok (.iload_n 1, 1) := by decide +kernel
theorem dX0_millivolts_27 : decode cX0_millivolts 27 = .ok (.i2l, 1) := by decide +kernel
theorem dX0_millivolts_28 : decode cX0_millivolts 28 = .ok (.lmul, 1) := by decide +kernel
theorem dX0_millivolts_29 : decode cX0_millivolts 29 = .ok (.iload_n 3, 1) := by decide +kernel
theorem dX0_millivolts_30 : decode cX0_millivolts 30 = .ok (.i2l, 1) := by decide +kernel
theorem dX0_millivolts_31 : decode cX0_millivolts 31 = .ok (.lmul, 1) := by decide +kernel
theorem dX0_millivolts_32 : decode cX0_millivolts 32 = .ok (.ldc2_w 52, 3) := by decide +kernel
theorem dX0_millivolts_35 : decode cX0_millivolts 35 = .ok (.ldiv, 1) := by decide +kernel
theorem dX0_millivolts_36 : decode cX0_millivolts 36 = .ok (.l2i, 1) := by decide +kernel
theorem dX0_millivolts_37 : decode cX0_millivolts 37 = .ok (.ireturn, 1) := by decide +kernel
set_option maxRecDepth 20000 in
theorem ggX0_widestWiredSpacing_X0_millivolts : GoodIn wsX0_widestWiredSpacing wsX0_millivolts := goodIn_r _ [5, 6, 7, 8, 9, 10, 4, 11, 12, 13, 14, 15, 16] (by decide +kernel) (by decide +kernel)
set_option maxRecDepth 20000 in
theorem gX0_widestWiredSpacing_X0_millivolts : GoodIn wsX0_widestWiredSpacing (wsV RX0 54 RX0 yX0_millivolts wsX0_millivolts) := goodIn_app (goodIn_of _ (by decide +kernel)) ggX0_widestWiredSpacing_X0_millivolts
theorem dX0_widestWiredSpacing_0 : decode cX0_widestWiredSpacing 0 = .ok (.sipush 600, 3) := by decide +kernel
theorem dX0_widestWiredSpacing_3 : decode cX0_widestWiredSpacing 3 = .ok (.istore 4, 2) := by decide +kernel
theorem dX0_widestWiredSpacing_5 : decode cX0_widestWiredSpacing 5 = .ok (.iload 4, 2) := by decide +kernel
theorem dX0_widestWiredSpacing_7 : decode cX0_widestWiredSpacing 7 = .ok (.bipush 10, 2) := by decide +kernel
theorem dX0_widestWiredSpacing_9 : decode cX0_widestWiredSpacing 9 = .ok (.if_icmp .lt 24, 3) := by decide +kernel
theorem dX0_widestWiredSpacing_12 : decode cX0_widestWiredSpacing 12 = .ok (.aload_n 0, 1) := by decide +kernel
theorem dX0_widestWiredSpacing_13 : decode cX0_widestWiredSpacing 13 = .ok (.iload 4, 2) := by decide +kernel
theorem dX0_widestWiredSpacing_15 : decode cX0_widestWiredSpacing 15 = .ok (.iload_n 1, 1) := by decide +kernel
theorem dX0_widestWiredSpacing_16 : decode cX0_widestWiredSpacing 16 = .ok (.iload_n 2, 1) := by decide +kernel
theorem dX0_widestWiredSpacing_17 : decode cX0_widestWiredSpacing 17 = .ok (.invokevirtual 54, 3) := by decide +kernel
theorem dX0_widestWiredSpacing_20 : decode cX0_widestWiredSpacing 20 = .ok (.iload_n 3, 1) := by decide +kernel
theorem dX0_widestWiredSpacing_21 : decode cX0_widestWiredSpacing 21 = .ok (.if_icmp .gt 6, 3) := by decide +kernel
theorem dX0_widestWiredSpacing_24 : decode cX0_widestWiredSpacing 24 = .ok (.iload 4, 2) := by decide +kernel
theorem dX0_widestWiredSpacing_26 : decode cX0_widestWiredSpacing 26 = .ok (.ireturn, 1) := by decide +kernel
theorem dX0_widestWiredSpacing_27 : decode cX0_widestWiredSpacing 27 = .ok (.iinc 4 (-10), 3) := by decide +kernel
theorem dX0_widestWiredSpacing_30 : decode cX0_widestWiredSpacing 30 = .ok (.goto (-25), 3) := by decide +kernel
theorem dX0_widestWiredSpacing_33 : decode cX0_widestWiredSpacing 33 = .ok (.iconst (-1), 1) := by decide +kernel
theorem dX0_widestWiredSpacing_34 : decode cX0_widestWiredSpacing 34 = .ok (.ireturn, 1) := by decide +kernel
set_option maxRecDepth 20000 in
theorem ggX0_lightAt_X0_firstPoleInReach : GoodIn wsX0_lightAt wsX0_firstPoleInReach := goodIn_r _ [12] (by decide +kernel) (by decide +kernel)
set_option maxRecDepth 20000 in
theorem gX0_lightAt_X0_firstPoleInReach : GoodIn wsX0_lightAt (va_wsS RX0 63 yX0_firstPoleInReach wsX0_firstPoleInReach) := goodIn_app (goodIn_of _ (by decide +kernel)) ggX0_lightAt_X0_firstPoleInReach
set_option maxRecDepth 20000 in
theorem ggX0_lightAt_X0_lightFrom : GoodIn wsX0_lightAt wsX0_lightFrom := goodIn_r _ [16, 17, 18, 19, 20, 21] (by decide +kernel) (by decide +kernel)
set_option maxRecDepth 20000 in
theorem gX0_lightAt_X0_lightFrom : GoodIn wsX0_lightAt (wsV RX0 69 RX0 yX0_lightFrom wsX0_lightFrom) := goodIn_app (goodIn_of _ (by decide +kernel)) ggX0_lightAt_X0_lightFrom
theorem dX0_lightAt_0 : decode cX0_lightAt 0 = .ok (.aload_n 0, 1) := by decide +kernel
theorem dX0_lightAt_1 : decode cX0_lightAt 1 = .ok (.getfield 21, 3) := by decide +kernel
theorem dX0_lightAt_4 : decode cX0_lightAt 4 = .ok (.iload_n 1, 1) := by decide +kernel
theorem dX0_lightAt_5 : decode cX0_lightAt 5 = .ok (.sipush 300, 3) := by decide +kernel
theorem dX0_lightAt_8 : decode cX0_lightAt 8 = .ok (.iadd, 1) := by decide +kernel
theorem dX0_lightAt_9 : decode cX0_lightAt 9 = .ok (.invokestatic 58, 3) := by decide +kernel
theorem dX0_lightAt_12 : decode cX0_lightAt 12 = .ok (.iload_n 2, 1) := by decide +kernel
theorem dX0_lightAt_13 : decode cX0_lightAt 13 = .ok (.idiv, 1) := by decide +kernel
theorem dX0_lightAt_14 : decode cX0_lightAt 14 = .ok (.istore_n 3, 1) := by decide +kernel
theorem dX0_lightAt_15 : decode cX0_lightAt 15 = .ok (.iconst 0, 1) := by decide +kernel
theorem dX0_lightAt_16 : decode cX0_lightAt 16 = .ok (.istore 4, 2) := by decide +kernel
theorem dX0_lightAt_18 : decode cX0_lightAt 18 = .ok (.iload_n 1, 1) := by decide +kernel
theorem dX0_lightAt_19 : decode cX0_lightAt 19 = .ok (.iload_n 2, 1) := by decide +kernel
theorem dX0_lightAt_20 : decode cX0_lightAt 20 = .ok (.invokestatic 63, 3) := by decide +kernel
theorem dX0_lightAt_23 : decode cX0_lightAt 23 = .ok (.istore 5, 2) := by decide +kernel
theorem dX0_lightAt_25 : decode cX0_lightAt 25 = .ok (.iload 5, 2) := by decide +kernel
theorem dX0_lightAt_27 : decode cX0_lightAt 27 = .ok (.iload_n 3, 1) := by decide +kernel
theorem dX0_lightAt_28 : decode cX0_lightAt 28 = .ok (.if_icmp .gt 27, 3) := by decide +kernel
theorem dX0_lightAt_31 : decode cX0_lightAt 31 = .ok (.iload 4, 2) := by decide +kernel
theorem dX0_lightAt_33 : decode cX0_lightAt 33 = .ok (.aload_n 0, 1) := by decide +kernel
theorem dX0_lightAt_34 : decode cX0_lightAt 34 = .ok (.iload_n 1, 1) := by decide +kernel
theorem dX0_lightAt_35 : decode cX0_lightAt 35 = .ok (.iload 5, 2) := by decide +kernel
theorem dX0_lightAt_37 : decode cX0_lightAt 37 = .ok (.iload_n 2, 1) := by decide +kernel
theorem dX0_lightAt_38 : decode cX0_lightAt 38 = .ok (.imul, 1) := by decide +kernel
theorem dX0_lightAt_39 : decode cX0_lightAt 39 = .ok (.isub, 1) := by decide +kernel
theorem dX0_lightAt_40 : decode cX0_lightAt 40 = .ok (.invokestatic 66, 3) := by decide +kernel
theorem dX0_lightAt_43 : decode cX0_lightAt 43 = .ok (.invokevirtual 69, 3) := by decide +kernel
theorem dX0_lightAt_46 : decode cX0_lightAt 46 = .ok (.iadd, 1) := by decide +kernel
theorem dX0_lightAt_47 : decode cX0_lightAt 47 = .ok (.istore 4, 2) := by decide +kernel
theorem dX0_lightAt_49 : decode cX0_lightAt 49 = .ok (.iinc 5 1, 3) := by decide +kernel
theorem dX0_lightAt_52 : decode cX0_lightAt 52 = .ok (.goto (-27), 3) := by decide +kernel
theorem dX0_lightAt_55 : decode cX0_lightAt 55 = .ok (.iload 4, 2) := by decide +kernel
theorem dX0_lightAt_57 : decode cX0_lightAt 57 = .ok (.ireturn, 1) := by decide +kernel
theorem dX0_places_0 : decode cX0_places 0 = .ok (.aload_n 0, 1) := by decide +kernel
theorem dX0_places_1 : decode cX0_places 1 = .ok (.getfield 21, 3) := by decide +kernel
theorem dX0_places_4 : decode cX0_places 4 = .ok (.bipush 10, 2) := by decide +kernel
theorem dX0_places_6 : decode cX0_places 6 = .ok (.idiv, 1) := by decide +kernel
theorem dX0_places_7 : decode cX0_places 7 = .ok (.iconst 1, 1) := by decide +kernel
theorem dX0_places_8 : decode cX0_places 8 = .ok (.iadd, 1) := by decide +kernel
theorem dX0_places_9 : decode cX0_places 9 = .ok (.ireturn, 1) := by decide +kernel
set_option maxRecDepth 20000 in
theorem ggX0_lightPlaces_X0_places : GoodIn wsX0_lightPlaces wsX0_places := goodIn_r _ [6, 7, 27, 28, 29, 30] (by decide +kernel) (by decide +kernel)
set_option maxRecDepth 20000 in
theorem gX0_lightPlaces_X0_places : GoodIn wsX0_lightPlaces (wsV RX0 72 RX0 yX0_places wsX0_places) := goodIn_app (goodIn_of _ (by decide +kernel)) ggX0_lightPlaces_X0_places
set_option maxRecDepth 20000 in
theorem ggX0_lightPlaces_X0_lightAt : GoodIn wsX0_lightPlaces wsX0_lightAt := goodIn_r _ [11, 7, 12, 13, 14, 15, 16, 17, 18, 19, 20, 5, 21, 22, 23, 24, 25, 26, 27, 28, 29, 30] (by decide +kernel) (by decide +kernel)
set_option maxRecDepth 20000 in
theorem gX0_lightPlaces_X0_lightAt : GoodIn wsX0_lightPlaces (wsV RX0 25 RX0 yX0_lightAt wsX0_lightAt) := goodIn_app (goodIn_of _ (by decide +kernel)) ggX0_lightPlaces_X0_lightAt
theorem dX0_lightPlaces_0 : decode cX0_lightPlaces 0 = .ok (.iconst 0, 1) := by decide +kernel
theorem dX0_lightPlaces_1 : decode cX0_lightPlaces 1 = .ok (.istore_n 2, 1) := by decide +kernel
theorem dX0_lightPlaces_2 : decode cX0_lightPlaces 2 = .ok (.iload_n 2, 1) := by decide +kernel
theorem dX0_lightPlaces_3 : decode cX0_lightPlaces 3 = .ok (.aload_n 0, 1) := by decide +kernel
theorem dX0_lightPlaces_4 : decode cX0_lightPlaces 4 = .ok (.invokevirtual 72, 3) := by decide +kernel
theorem dX0_lightPlaces_7 : decode cX0_lightPlaces 7 = .ok (.if_icmp .ge 24, 3) := by decide +kernel
theorem dX0_lightPlaces_10 : decode cX0_lightPlaces 10 = .ok (.aload_n 0, 1) := by decide +kernel
theorem dX0_lightPlaces_11 : decode cX0_lightPlaces 11 = .ok (.getfield 18, 3) := by decide +kernel
theorem dX0_lightPlaces_14 : decode cX0_lightPlaces 14 = .ok (.iload_n 2, 1) := by decide +kernel
theorem dX0_lightPlaces_15 : decode cX0_lightPlaces 15 = .ok (.aload_n 0, 1) := by decide +kernel
theorem dX0_lightPlaces_16 : decode cX0_lightPlaces 16 = .ok (.iload_n 2, 1) := by decide +kernel
theorem dX0_lightPlaces_17 : decode cX0_lightPlaces 17 = .ok (.bipush 10, 2) := by decide +kernel
theorem dX0_lightPlaces_19 : decode cX0_lightPlaces 19 = .ok (.imul, 1) := by decide +kernel
theorem dX0_lightPlaces_20 : decode cX0_lightPlaces 20 = .ok (.iload_n 1, 1) := by decide +kernel
theorem dX0_lightPlaces_21 : decode cX0_lightPlaces 21 = .ok (.invokevirtual 25, 3) := by decide +kernel
theorem dX0_lightPlaces_24 : decode cX0_lightPlaces 24 = .ok (.iastore, 1) := by decide +kernel
theorem dX0_lightPlaces_25 : decode cX0_lightPlaces 25 = .ok (.iinc 2 1, 3) := by decide +kernel
theorem dX0_lightPlaces_28 : decode cX0_lightPlaces 28 = .ok (.goto (-26), 3) := by decide +kernel
theorem dX0_lightPlaces_31 : decode cX0_lightPlaces 31 = .ok (.return_, 1) := by decide +kernel
set_option maxRecDepth 20000 in
theorem ggX0_leastOfPlaces_X0_places : GoodIn wsX0_leastOfPlaces wsX0_places := goodIn_r _ [10, 11, 12, 13, 14, 15] (by decide +kernel) (by decide +kernel)
set_option maxRecDepth 20000 in
theorem gX0_leastOfPlaces_X0_places : GoodIn wsX0_leastOfPlaces (wsV RX0 72 RX0 yX0_places wsX0_places) := goodIn_app (goodIn_of _ (by decide +kernel)) ggX0_leastOfPlaces_X0_places
theorem dX0_leastOfPlaces_0 : decode cX0_leastOfPlaces 0 = .ok (.aload_n 0, 1) := by decide +kernel
theorem dX0_leastOfPlaces_1 : decode cX0_leastOfPlaces 1 = .ok (.getfield 18, 3) := by decide +kernel
theorem dX0_leastOfPlaces_4 : decode cX0_leastOfPlaces 4 = .ok (.iconst 0, 1) := by decide +kernel
theorem dX0_leastOfPlaces_5 : decode cX0_leastOfPlaces 5 = .ok (.iaload, 1) := by decide +kernel
theorem dX0_leastOfPlaces_6 : decode cX0_leastOfPlaces 6 = .ok (.istore_n 1, 1) := by decide +kernel
theorem dX0_leastOfPlaces_7 : decode cX0_leastOfPlaces 7 = .ok (.iconst 1, 1) := by decide +kernel
theorem dX0_leastOfPlaces_8 : decode cX0_leastOfPlaces 8 = .ok (.istore_n 2, 1) := by decide +kernel
theorem dX0_leastOfPlaces_9 : decode cX0_leastOfPlaces 9 = .ok (.iload_n 2, 1) := by decide +kernel
theorem dX0_leastOfPlaces_10 : decode cX0_leastOfPlaces 10 = .ok (.aload_n 0, 1) := by decide +kernel
theorem dX0_leastOfPlaces_11 : decode cX0_leastOfPlaces 11 = .ok (.invokevirtual 72, 3) := by decide +kernel
theorem dX0_leastOfPlaces_14 : decode cX0_leastOfPlaces 14 = .ok (.if_icmp .ge 20, 3) := by decide +kernel
theorem dX0_leastOfPlaces_17 : decode cX0_leastOfPlaces 17 = .ok (.iload_n 1, 1) := by decide +kernel
theorem dX0_leastOfPlaces_18 : decode cX0_leastOfPlaces 18 = .ok (.aload_n 0, 1) := by decide +kernel
theorem dX0_leastOfPlaces_19 : decode cX0_leastOfPlaces 19 = .ok (.getfield 18, 3) := by decide +kernel
theorem dX0_leastOfPlaces_22 : decode cX0_leastOfPlaces 22 = .ok (.iload_n 2, 1) := by decide +kernel
theorem dX0_leastOfPlaces_23 : decode cX0_leastOfPlaces 23 = .ok (.iaload, 1) := by decide +kernel
theorem dX0_leastOfPlaces_24 : decode cX0_leastOfPlaces 24 = .ok (.invokestatic 58, 3) := by decide +kernel
theorem dX0_leastOfPlaces_27 : decode cX0_leastOfPlaces 27 = .ok (.istore_n 1, 1) := by decide +kernel
theorem dX0_leastOfPlaces_28 : decode cX0_leastOfPlaces 28 = .ok (.iinc 2 1, 3) := by decide +kernel
theorem dX0_leastOfPlaces_31 : decode cX0_leastOfPlaces 31 = .ok (.goto (-22), 3) := by decide +kernel
theorem dX0_leastOfPlaces_34 : decode cX0_leastOfPlaces 34 = .ok (.iload_n 1, 1) := by decide +kernel
theorem dX0_leastOfPlaces_35 : decode cX0_leastOfPlaces 35 = .ok (.ireturn, 1) := by decide +kernel
set_option maxRecDepth 20000 in
theorem ggX0_meanOfPlaces_X0_places : GoodIn wsX0_meanOfPlaces wsX0_places := goodIn_r _ [6, 7, 11, 12, 13, 14] (by decide +kernel) (by decide +kernel)
set_option maxRecDepth 20000 in
theorem gX0_meanOfPlaces_X0_places : GoodIn wsX0_meanOfPlaces (wsV RX0 72 RX0 yX0_places wsX0_places) := goodIn_app (goodIn_of _ (by decide +kernel)) ggX0_meanOfPlaces_X0_places
set_option maxRecDepth 20000 in
theorem ggX0_meanOfPlaces_X0_dimmed : GoodIn wsX0_meanOfPlaces wsX0_dimmed := goodIn_r _ [10] (by decide +kernel) (by decide +kernel)
set_option maxRecDepth 20000 in
theorem gX0_meanOfPlaces_X0_dimmed : GoodIn wsX0_meanOfPlaces (va_wsS RX0 29 yX0_dimmed wsX0_dimmed) := goodIn_app (goodIn_of _ (by decide +kernel)) ggX0_meanOfPlaces_X0_dimmed
theorem dX0_meanOfPlaces_0 : decode cX0_meanOfPlaces 0 = .ok (.lconst 0, 1) := by decide +kernel
theorem dX0_meanOfPlaces_1 : decode cX0_meanOfPlaces 1 = .ok (.lstore_n 2, 1) := by decide +kernel
theorem dX0_meanOfPlaces_2 : decode cX0_meanOfPlaces 2 = .ok (.iconst 0, 1) := by decide +kernel
theorem dX0_meanOfPlaces_3 : decode cX0_meanOfPlaces 3 = .ok (.istore 4, 2) := by decide +kernel
theorem dX0_meanOfPlaces_5 : decode cX0_meanOfPlaces 5 = .ok (.iload 4, 2) := by decide +kernel
theorem dX0_meanOfPlaces_7 : decode cX0_meanOfPlaces 7 = .ok (.aload_n 0, 1) := by decide +kernel
theorem dX0_meanOfPlaces_8 : decode cX0_meanOfPlaces 8 = .ok (.invokevirtual 72, 3) := by decide +kernel
theorem dX0_meanOfPlaces_11 : decode cX0_meanOfPlaces 11 = .ok (.if_icmp .ge 24, 3) := by decide +kernel
theorem dX0_meanOfPlaces_14 : decode cX0_meanOfPlaces 14 = .ok (.lload_n 2, 1) := by decide +kernel
theorem dX0_meanOfPlaces_15 : decode cX0_meanOfPlaces 15 = .ok (.aload_n 0, 1) := by decide +kernel
theorem dX0_meanOfPlaces_16 : decode cX0_meanOfPlaces 16 = .ok (.getfield 18, 3) := by decide +kernel
theorem dX0_meanOfPlaces_19 : decode cX0_meanOfPlaces 19 = .ok (.iload 4, 2) := by decide +kernel
theorem dX0_meanOfPlaces_21 : decode cX0_meanOfPlaces 21 = .ok (.iaload, 1) := by decide +kernel
theorem dX0_meanOfPlaces_22 : decode cX0_meanOfPlaces 22 = .ok (.iload_n 1, 1) := by decide +kernel
theorem dX0_meanOfPlaces_23 : decode cX0_meanOfPlaces 23 = .ok (.invokestatic 29, 3) := by decide +kernel
theorem dX0_meanOfPlaces_26 : decode cX0_meanOfPlaces 26 = .ok (.i2l, 1) := by decide +kernel
theorem dX0_meanOfPlaces_27 : decode cX0_meanOfPlaces 27 = .ok (.ladd, 1) := by decide +kernel
theorem dX0_meanOfPlaces_28 : decode cX0_meanOfPlaces 28 = .ok (.lstore_n 2, 1) := by decide +kernel
theorem dX0_meanOfPlaces_29 : decode cX0_meanOfPlaces 29 = .ok (.iinc 4 1, 3) := by decide +kernel
theorem dX0_meanOfPlaces_32 : decode cX0_meanOfPlaces 32 = .ok (.goto (-27), 3) := by decide +kernel
theorem dX0_meanOfPlaces_35 : decode cX0_meanOfPlaces 35 = .ok (.lload_n 2, 1) := by decide +kernel
theorem dX0_meanOfPlaces_36 : decode cX0_meanOfPlaces 36 = .ok (.aload_n 0, 1) := by decide +kernel
theorem dX0_meanOfPlaces_37 : decode cX0_meanOfPlaces 37 = .ok (.invokevirtual 72, 3) := by decide +kernel
theorem dX0_meanOfPlaces_40 : decode cX0_meanOfPlaces 40 = .ok (.i2l, 1) := by decide +kernel
theorem dX0_meanOfPlaces_41 : decode cX0_meanOfPlaces 41 = .ok (.ldiv, 1) := by decide +kernel
theorem dX0_meanOfPlaces_42 : decode cX0_meanOfPlaces 42 = .ok (.l2i, 1) := by decide +kernel
theorem dX0_meanOfPlaces_43 : decode cX0_meanOfPlaces 43 = .ok (.ireturn, 1) := by decide +kernel
set_option maxRecDepth 20000 in
theorem ggX0_evennessOfPlaces_X0_meanOfPlaces : GoodIn wsX0_evennessOfPlaces wsX0_meanOfPlaces := goodIn_r _ [6, 7, 8, 9, 10, 5, 11, 12, 13, 14, 15, 24, 25, 26, 27] (by decide +kernel) (by decide +kernel)
set_option maxRecDepth 20000 in
theorem gX0_evennessOfPlaces_X0_meanOfPlaces : GoodIn wsX0_evennessOfPlaces (wsV RX0 40 RX0 yX0_meanOfPlaces wsX0_meanOfPlaces) := goodIn_app (goodIn_of _ (by decide +kernel)) ggX0_evennessOfPlaces_X0_meanOfPlaces
set_option maxRecDepth 20000 in
theorem ggX0_evennessOfPlaces_X0_leastOfPlaces : GoodIn wsX0_evennessOfPlaces wsX0_leastOfPlaces := goodIn_r _ [19, 7, 20, 21, 22, 23, 8, 9, 10, 5, 11, 12, 24, 25, 26, 27] (by decide +kernel) (by decide +kernel)
set_option maxRecDepth 20000 in
theorem gX0_evennessOfPlaces_X0_leastOfPlaces : GoodIn wsX0_evennessOfPlaces (wsV RX0 36 RX0 yX0_leastOfPlaces wsX0_leastOfPlaces) := goodIn_app (goodIn_of _ (by decide +kernel)) ggX0_evennessOfPlaces_X0_leastOfPlaces
theorem dX0_evennessOfPlaces_0 : decode cX0_evennessOfPlaces 0 = .ok (.aload_n 0, 1) := by decide +kernel
theorem dX0_evennessOfPlaces_1 : decode cX0_evennessOfPlaces 1 = .ok (.bipush 100, 2) := by decide +kernel
theorem dX0_evennessOfPlaces_3 : decode cX0_evennessOfPlaces 3 = .ok (.invokevirtual 40, 3) := by decide +kernel
theorem dX0_evennessOfPlaces_6 : decode cX0_evennessOfPlaces 6 = .ok (.istore_n 1, 1) := by decide +kernel
theorem dX0_evennessOfPlaces_7 : decode cX0_evennessOfPlaces 7 = .ok (.iload_n 1, 1) := by decide +kernel
theorem dX0_evennessOfPlaces_8 : decode cX0_evennessOfPlaces 8 = .ok (.ifCond .ne 5, 3) := by decide +kernel
theorem dX0_evennessOfPlaces_11 : decode cX0_evennessOfPlaces 11 = .ok (.iconst 0, 1) := by decide +kernel
theorem dX0_evennessOfPlaces_12 : decode cX0_evennessOfPlaces 12 = .ok (.ireturn, 1) := by decide +kernel
theorem dX0_evennessOfPlaces_13 : decode cX0_evennessOfPlaces 13 = .ok (.aload_n 0, 1) := by decide +kernel
theorem dX0_evennessOfPlaces_14 : decode cX0_evennessOfPlaces 14 = .ok (.invokevirtual 36, 3) := by decide +kernel
theorem dX0_evennessOfPlaces_17 : decode cX0_evennessOfPlaces 17 = .ok (.i2l, 1) := by decide +kernel
theorem dX0_evennessOfPlaces_18 : decode cX0_evennessOfPlaces 18 = .ok (.ldc2_w 75, 3) := by decide +kernel
theorem dX0_evennessOfPlaces_21 : decode cX0_evennessOfPlaces 21 = .ok (.lmul, 1) := by decide +kernel
theorem dX0_evennessOfPlaces_22 : decode cX0_evennessOfPlaces 22 = .ok (.iload_n 1, 1) := by decide +kernel
theorem dX0_evennessOfPlaces_23 : decode cX0_evennessOfPlaces 23 = .ok (.i2l, 1) := by decide +kernel
theorem dX0_evennessOfPlaces_24 : decode cX0_evennessOfPlaces 24 = .ok (.ldiv, 1) := by decide +kernel
theorem dX0_evennessOfPlaces_25 : decode cX0_evennessOfPlaces 25 = .ok (.l2i, 1) := by decide +kernel
theorem dX0_evennessOfPlaces_26 : decode cX0_evennessOfPlaces 26 = .ok (.ireturn, 1) := by decide +kernel
theorem dX0_dimmed_0 : decode cX0_dimmed 0 = .ok (.iload_n 0, 1) := by decide +kernel
theorem dX0_dimmed_1 : decode cX0_dimmed 1 = .ok (.iload_n 1, 1) := by decide +kernel
theorem dX0_dimmed_2 : decode cX0_dimmed 2 = .ok (.imul, 1) := by decide +kernel
theorem dX0_dimmed_3 : decode cX0_dimmed 3 = .ok (.bipush 100, 2) := by decide +kernel
theorem dX0_dimmed_5 : decode cX0_dimmed 5 = .ok (.idiv, 1) := by decide +kernel
theorem dX0_dimmed_6 : decode cX0_dimmed 6 = .ok (.ireturn, 1) := by decide +kernel
theorem dX0_firstPoleInReach_0 : decode cX0_firstPoleInReach 0 = .ok (.iload_n 0, 1) := by decide +kernel
theorem dX0_firstPoleInReach_1 : decode cX0_firstPoleInReach 1 = .ok (.sipush 300, 3) := by decide +kernel
theorem dX0_firstPoleInReach_4 : decode cX0_firstPoleInReach 4 = .ok (.isub, 1) := by decide +kernel
theorem dX0_firstPoleInReach_5 : decode cX0_firstPoleInReach 5 = .ok (.istore_n 2, 1) := by decide +kernel
theorem dX0_firstPoleInReach_6 : decode cX0_firstPoleInReach 6 = .ok (.iload_n 2, 1) := by decide +kernel
theorem dX0_firstPoleInReach_7 : decode cX0_firstPoleInReach 7 = .ok (.ifCond .gt 7, 3) := by decide +kernel
theorem dX0_firstPoleInReach_10 : decode cX0_firstPoleInReach 10 = .ok (.iconst 0, 1) := by decide +kernel
theorem dX0_firstPoleInReach_11 : decode cX0_firstPoleInReach 11 = .ok (.goto 10, 3) := by decide +kernel
theorem dX0_firstPoleInReach_14 : decode cX0_firstPoleInReach 14 = .ok (.iload_n 2, 1) := by decide +kernel
theorem dX0_firstPoleInReach_15 : decode cX0_firstPoleInReach 15 = .ok (.iload_n 1, 1) := by decide +kernel
theorem dX0_firstPoleInReach_16 : decode cX0_firstPoleInReach 16 = .ok (.iadd, 1) := by decide +kernel
theorem dX0_firstPoleInReach_17 : decode cX0_firstPoleInReach 17 = .ok (.iconst 1, 1) := by decide +kernel
theorem dX0_firstPoleInReach_18 : decode cX0_firstPoleInReach 18 = .ok (.isub, 1) := by decide +kernel
theorem dX0_firstPoleInReach_19 : decode cX0_firstPoleInReach 19 = .ok (.iload_n 1, 1) := by decide +kernel
theorem dX0_firstPoleInReach_20 : decode cX0_firstPoleInReach 20 = .ok (.idiv, 1) := by decide +kernel
theorem dX0_firstPoleInReach_21 : decode cX0_firstPoleInReach 21 = .ok (.ireturn, 1) := by decide +kernel
