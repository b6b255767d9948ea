theorem dX4_manyOrders_8 : decode cX4_manyOrders 8 = .ok (.iconst 0, 1) := by decide +kernel
theorem dX4_manyOrders_9 : decode cX4_manyOrders 9 = .ok (.iaload, 1) := by decide +kernel
theorem dX4_manyOrders_10 : decode cX4_manyOrders 10 = .ok (.i2l, 1) := by decide +kernel
theorem dX4_manyOrders_11 : decode cX4_manyOrders 11 = .ok (.lreturn, 1) := by decide +kernel
set_option maxRecDepth 20000 in
theorem ggX4_lineOfOrder_X4_manyOrders : GoodIn wsX4_lineOfOrder wsX4_manyOrders := goodIn_r _ [6, 7, 8, 9, 10, 5, 11, 12, 1, 13, 14, 15, 16, 17, 18, 19, 20, 21, 31, 32, 33, 34, 35, 36] (by decide +kernel) (by decide +kernel)
set_option maxRecDepth 20000 in
theorem gX4_lineOfOrder_X4_manyOrders : GoodIn wsX4_lineOfOrder (wsV RX4 53 RX4 yX4_manyOrders wsX4_manyOrders) := goodIn_app (goodIn_of _ (by decide +kernel)) ggX4_lineOfOrder_X4_manyOrders
set_option maxRecDepth 20000 in
theorem ggX4_lineOfOrder_X4_nextRank : GoodIn wsX4_lineOfOrder wsX4_nextRank := goodIn_r _ [25, 1, 17, 18, 19, 5, 20, 21, 13, 14, 15, 16, 7, 31, 32, 33, 34, 35, 36] (by decide +kernel) (by decide +kernel)
set_option maxRecDepth 20000 in
theorem gX4_lineOfOrder_X4_nextRank : GoodIn wsX4_lineOfOrder (wsV RX4 57 RX4 yX4_nextRank wsX4_nextRank) := goodIn_app (goodIn_of _ (by decide +kernel)) ggX4_lineOfOrder_X4_nextRank
set_option maxRecDepth 20000 in
theorem ggX4_lineOfOrder_X4_waysBefore : GoodIn wsX4_lineOfOrder wsX4_waysBefore := goodIn_r _ [16, 7, 17, 18, 19, 5, 20, 1, 21, 31, 32, 33, 34, 35, 36] (by decide +kernel) (by decide +kernel)
set_option maxRecDepth 20000 in
theorem gX4_lineOfOrder_X4_waysBefore : GoodIn wsX4_lineOfOrder (wsV RX4 61 RX4 yX4_waysBefore wsX4_waysBefore) := goodIn_app (goodIn_of _ (by decide +kernel)) ggX4_lineOfOrder_X4_waysBefore
set_option maxRecDepth 20000 in
theorem ggX4_lineOfOrder_X4_lineOf : GoodIn wsX4_lineOfOrder wsX4_lineOf := goodIn_r _ [29, 1, 30, 31, 32, 33, 34, 35, 36] (by decide +kernel) (by decide +kernel)
set_option maxRecDepth 20000 in
theorem gX4_lineOfOrder_X4_lineOf : GoodIn wsX4_lineOfOrder (wsV RX4 65 RX4 yX4_lineOf wsX4_lineOf) := goodIn_app (goodIn_of _ (by decide +kernel)) ggX4_lineOfOrder_X4_lineOf
theorem dX4_lineOfOrder_0 : decode cX4_lineOfOrder 0 = .ok (.iload_n 3, 1) := by decide +kernel
theorem dX4_lineOfOrder_1 : decode cX4_lineOfOrder 1 = .ok (.ifCond .lt 26, 3) := by decide +kernel
theorem dX4_lineOfOrder_4 : decode cX4_lineOfOrder 4 = .ok (.iload_n 3, 1) := by decide +kernel
theorem dX4_lineOfOrder_5 : decode cX4_lineOfOrder 5 = .ok (.aload_n 0, 1) := by decide +kernel
theorem dX4_lineOfOrder_6 : decode cX4_lineOfOrder 6 = .ok (.getfield 30, 3) := by decide +kernel
theorem dX4_lineOfOrder_9 : decode cX4_lineOfOrder 9 = .ok (.if_icmp .ge 18, 3) := by decide +kernel
theorem dX4_lineOfOrder_12 : decode cX4_lineOfOrder 12 = .ok (.lload_n 1, 1) := by decide +kernel
theorem dX4_lineOfOrder_13 : decode cX4_lineOfOrder 13 = .ok (.lconst 0, 1) := by decide +kernel
theorem dX4_lineOfOrder_14 : decode cX4_lineOfOrder 14 = .ok (.lcmp, 1) := by decide +kernel
theorem dX4_lineOfOrder_15 : decode cX4_lineOfOrder 15 = .ok (.ifCond .lt 12, 3) := by decide +kernel
theorem dX4_lineOfOrder_18 : decode cX4_lineOfOrder 18 = .ok (.lload_n 1, 1) := by decide +kernel
theorem dX4_lineOfOrder_19 : decode cX4_lineOfOrder 19 = .ok (.aload_n 0, 1) := by decide +kernel
theorem dX4_lineOfOrder_20 : decode cX4_lineOfOrder 20 = .ok (.invokevirtual 53, 3) := by decide +kernel
theorem dX4_lineOfOrder_23 : decode cX4_lineOfOrder 23 = .ok (.lcmp, 1) := by decide +kernel
theorem dX4_lineOfOrder_24 : decode cX4_lineOfOrder 24 = .ok (.ifCond .lt 5, 3) := by decide +kernel
theorem dX4_lineOfOrder_27 : decode cX4_lineOfOrder 27 = .ok (.iconst (-1), 1) := by decide +kernel
theorem dX4_lineOfOrder_28 : decode cX4_lineOfOrder 28 = .ok (.ireturn, 1) := by decide +kernel
theorem dX4_lineOfOrder_29 : decode cX4_lineOfOrder 29 = .ok (.lload_n 1, 1) := by decide +kernel
theorem dX4_lineOfOrder_30 : decode cX4_lineOfOrder 30 = .ok (.lstore 4, 2) := by decide +kernel
theorem dX4_lineOfOrder_32 : decode cX4_lineOfOrder 32 = .ok (.iconst 0, 1) := by decide +kernel
theorem dX4_lineOfOrder_33 : decode cX4_lineOfOrder 33 = .ok (.istore 6, 2) := by decide +kernel
theorem dX4_lineOfOrder_35 : decode cX4_lineOfOrder 35 = .ok (.iconst (-1), 1) := by decide +kernel
theorem dX4_lineOfOrder_36 : decode cX4_lineOfOrder 36 = .ok (.istore 7, 2) := by decide +kernel
theorem dX4_lineOfOrder_38 : decode cX4_lineOfOrder 38 = .ok (.iconst 0, 1) := by decide +kernel
theorem dX4_lineOfOrder_39 : decode cX4_lineOfOrder 39 = .ok (.istore 8, 2) := by decide +kernel
theorem dX4_lineOfOrder_41 : decode cX4_lineOfOrder 41 = .ok (.iload 8, 2) := by decide +kernel
theorem dX4_lineOfOrder_43 : decode cX4_lineOfOrder 43 = .ok (.iload_n 3, 1) := by decide +kernel
theorem dX4_lineOfOrder_44 : decode cX4_lineOfOrder 44 = .ok (.if_icmp .gt 42, 3) := by decide +kernel
theorem dX4_lineOfOrder_47 : decode cX4_lineOfOrder 47 = .ok (.aload_n 0, 1) := by decide +kernel
theorem dX4_lineOfOrder_48 : decode cX4_lineOfOrder 48 = .ok (.iload 6, 2) := by decide +kernel
theorem dX4_lineOfOrder_50 : decode cX4_lineOfOrder 50 = .ok (.lload 4, 2) := by decide +kernel
theorem dX4_lineOfOrder_52 : decode cX4_lineOfOrder 52 = .ok (.invokevirtual 57, 3) := by decide +kernel
theorem dX4_lineOfOrder_55 : decode cX4_lineOfOrder 55 = .ok (.istore 7, 2) := by decide +kernel
theorem dX4_lineOfOrder_57 : decode cX4_lineOfOrder 57 = .ok (.lload 4, 2) := by decide +kernel
theorem dX4_lineOfOrder_59 : decode cX4_lineOfOrder 59 = .ok (.aload_n 0, 1) := by decide +kernel
theorem dX4_lineOfOrder_60 : decode cX4_lineOfOrder 60 = .ok (.iload 6, 2) := by decide +kernel
theorem dX4_lineOfOrder_62 : decode cX4_lineOfOrder 62 = .ok (.iload 7, 2) := by decide +kernel
theorem dX4_lineOfOrder_64 : decode cX4_lineOfOrder 64 = .ok (.invokevirtual 61, 3) := by decide +kernel
theorem dX4_lineOfOrder_67 : decode cX4_lineOfOrder 67 = .ok (.i2l, 1) := by decide +kernel
theorem dX4_lineOfOrder_68 : decode cX4_lineOfOrder 68 = .ok (.lsub, 1) := by decide +kernel
theorem dX4_lineOfOrder_69 : decode cX4_lineOfOrder 69 = .ok (.lstore 4, 2) := by decide +kernel
theorem dX4_lineOfOrder_71 : decode cX4_lineOfOrder 71 = .ok (.iload 6, 2) := by decide +kernel
theorem dX4_lineOfOrder_73 : decode cX4_lineOfOrder 73 = .ok (.iconst 1, 1) := by decide +kernel
theorem dX4_lineOfOrder_74 : decode cX4_lineOfOrder 74 = .ok (.iload 7, 2) := by decide +kernel
theorem dX4_lineOfOrder_76 : decode cX4_lineOfOrder 76 = .ok (.ishl, 1) := by decide +kernel
theorem dX4_lineOfOrder_77 : decode cX4_lineOfOrder 77 = .ok (.ior, 1) := by decide +kernel
theorem dX4_lineOfOrder_78 : decode cX4_lineOfOrder 78 = .ok (.istore 6, 2) := by decide +kernel
theorem dX4_lineOfOrder_80 : decode cX4_lineOfOrder 80 = .ok (.iinc 8 1, 3) := by decide +kernel
theorem dX4_lineOfOrder_83 : decode cX4_lineOfOrder 83 = .ok (.goto (-42), 3) := by decide +kernel
theorem dX4_lineOfOrder_86 : decode cX4_lineOfOrder 86 = .ok (.aload_n 0, 1) := by decide +kernel
theorem dX4_lineOfOrder_87 : decode cX4_lineOfOrder 87 = .ok (.iload 7, 2) := by decide +kernel
theorem dX4_lineOfOrder_89 : decode cX4_lineOfOrder 89 = .ok (.invokevirtual 65, 3) := by decide +kernel
theorem dX4_lineOfOrder_92 : decode cX4_lineOfOrder 92 = .ok (.ireturn, 1) := by decide +kernel
set_option maxRecDepth 20000 in
theorem ggX4_orderOf_X4_countWays : GoodIn wsX4_orderOf wsX4_countWays := goodIn_r _ [7, 8, 1, 9, 10, 11, 12, 6, 13, 14, 15, 16, 17, 18, 37, 38, 39, 40, 41, 42] (by decide +kernel) (by decide +kernel)
set_option maxRecDepth 20000 in
theorem gX4_orderOf_X4_countWays : GoodIn wsX4_orderOf (wsV RX4 50 RX4 yX4_countWays wsX4_countWays) := goodIn_app (goodIn_of _ (by decide +kernel)) ggX4_orderOf_X4_countWays
set_option maxRecDepth 20000 in
theorem ggX4_orderOf_X0_lineAt : GoodIn wsX4_orderOf wsX0_lineAt := goodIn_r _ [23, 24, 25, 26, 27, 22, 28, 29, 35, 36] (by decide +kernel) (by decide +kernel)
set_option maxRecDepth 20000 in
theorem gX4_orderOf_X0_lineAt : GoodIn wsX4_orderOf (wsV RX4 73 RX0 yX0_lineAt wsX0_lineAt) := goodIn_app (goodIn_of _ (by decide +kernel)) ggX4_orderOf_X0_lineAt
set_option maxRecDepth 20000 in
theorem ggX4_orderOf_X4_rankOf : GoodIn wsX4_orderOf wsX4_rankOf := goodIn_r _ [33, 34, 37, 38, 39, 40, 41, 42] (by decide +kernel) (by decide +kernel)
set_option maxRecDepth 20000 in
theorem gX4_orderOf_X4_rankOf : GoodIn wsX4_orderOf (wsV RX4 76 RX4 yX4_rankOf wsX4_rankOf) := goodIn_app (goodIn_of _ (by decide +kernel)) ggX4_orderOf_X4_rankOf
set_option maxRecDepth 20000 in
theorem ggX4_orderOf_X4_mayCome : GoodIn wsX4_orderOf wsX4_mayCome := goodIn_r _ [17, 1, 18, 37, 38, 39, 40, 41, 42] (by decide +kernel) (by decide +kernel)
set_option maxRecDepth 20000 in
theorem gX4_orderOf_X4_mayCome : GoodIn wsX4_orderOf (wsV RX4 79 RX4 yX4_mayCome wsX4_mayCome) := goodIn_app (goodIn_of _ (by decide +kernel)) ggX4_orderOf_X4_mayCome
set_option maxRecDepth 20000 in
theorem ggX4_orderOf_X4_waysBefore : GoodIn wsX4_orderOf wsX4_waysBefore := goodIn_r _ [13, 9, 14, 15, 16, 6, 17, 1, 18, 37, 38, 39, 40, 41, 42] (by decide +kernel) (by decide +kernel)
set_option maxRecDepth 20000 in
theorem gX4_orderOf_X4_waysBefore : GoodIn wsX4_orderOf (wsV RX4 61 RX4 yX4_waysBefore wsX4_waysBefore) := goodIn_app (goodIn_of _ (by decide +kernel)) ggX4_orderOf_X4_waysBefore
theorem dX4_orderOf_0 : decode cX4_orderOf 0 = .ok (.aload_n 1, 1) := by decide +kernel
theorem dX4_orderOf_1 : decode cX4_orderOf 1 = .ok (.getfield 68, 3) := by decide +kernel
theorem dX4_orderOf_4 : decode cX4_orderOf 4 = .ok (.aload_n 0, 1) := by decide +kernel
theorem dX4_orderOf_5 : decode cX4_orderOf 5 = .ok (.getfield 30, 3) := by decide +kernel
theorem dX4_orderOf_8 : decode cX4_orderOf 8 = .ok (.if_icmp .eq 7, 3) := by decide +kernel
theorem dX4_orderOf_11 : decode cX4_orderOf 11 = .ok (.ldc2_w 71, 3) := by decide +kernel
theorem dX4_orderOf_14 : decode cX4_orderOf 14 = .ok (.lreturn, 1) := by decide +kernel
theorem dX4_orderOf_15 : decode cX4_orderOf 15 = .ok (.aload_n 0, 1) := by decide +kernel
theorem dX4_orderOf_16 : decode cX4_orderOf 16 = .ok (.invokevirtual 50, 3) := by decide +kernel
theorem dX4_orderOf_19 : decode cX4_orderOf 19 = .ok (.lconst 0, 1) := by decide +kernel
theorem dX4_orderOf_20 : decode cX4_orderOf 20 = .ok (.lstore_n 2, 1) := by decide +kernel
theorem dX4_orderOf_21 : decode cX4_orderOf 21 = .ok (.iconst 0, 1) := by decide +kernel
theorem dX4_orderOf_22 : decode cX4_orderOf 22 = .ok (.istore 4, 2) := by decide +kernel
theorem dX4_orderOf_24 : decode cX4_orderOf 24 = .ok (.iconst 0, 1) := by decide +kernel
theorem dX4_orderOf_25 : decode cX4_orderOf 25 = .ok (.istore 5, 2) := by decide +kernel
theorem dX4_orderOf_27 : decode cX4_orderOf 27 = .ok (.iload 5, 2) := by decide +kernel
theorem dX4_orderOf_29 : decode cX4_orderOf 29 = .ok (.aload_n 0, 1) := by decide +kernel
theorem dX4_orderOf_30 : decode cX4_orderOf 30 = .ok (.getfield 30, 3) := by decide +kernel
theorem dX4_orderOf_33 : decode cX4_orderOf 33 = .ok (.if_icmp .ge 57, 3) := by decide +kernel
theorem dX4_orderOf_36 : decode cX4_orderOf 36 = .ok (.aload_n 0, 1) := by decide +kernel
theorem dX4_orderOf_37 : decode cX4_orderOf 37 = .ok (.aload_n 1, 1) := by decide +kernel
theorem dX4_orderOf_38 : decode cX4_orderOf 38 = .ok (.iload 5, 2) := by decide +kernel
theorem dX4_orderOf_40 : decode cX4_orderOf 40 = .ok (.invokevirtual 73, 3) := by decide +kernel
theorem dX4_orderOf_43 : decode cX4_orderOf 43 = .ok (.invokevirtual 76, 3) := by decide +kernel
theorem dX4_orderOf_46 : decode cX4_orderOf 46 = .ok (.istore 6, 2) := by decide +kernel
theorem dX4_orderOf_48 : decode cX4_orderOf 48 = .ok (.aload_n 0, 1) := by decide +kernel
theorem dX4_orderOf_49 : decode cX4_orderOf 49 = .ok (.iload 6, 2) := by decide +kernel
theorem dX4_orderOf_51 : decode cX4_orderOf 51 = .ok (.iload 4, 2) := by decide +kernel
theorem dX4_orderOf_53 : decode cX4_orderOf 53 = .ok (.invokevirtual 79, 3) := by decide +kernel
theorem dX4_orderOf_56 : decode cX4_orderOf 56 = .ok (.ifCond .ne 7, 3) := by decide +kernel
theorem dX4_orderOf_59 : decode cX4_orderOf 59 = .ok (.ldc2_w 71, 3) := by decide +kernel
theorem dX4_orderOf_62 : decode cX4_orderOf 62 = .ok (.lreturn, 1) := by decide +kernel
theorem dX4_orderOf_63 : decode cX4_orderOf 63 = .ok (.lload_n 2, 1) := by decide +kernel
theorem dX4_orderOf_64 : decode cX4_orderOf 64 = .ok (.aload_n 0, 1) := by decide +kernel
theorem dX4_orderOf_65 : decode cX4_orderOf 65 = .ok (.iload 4, 2) := by decide +kernel
theorem dX4_orderOf_67 : decode cX4_orderOf 67 = .ok (.iload 6, 2) := by decide +kernel
theorem dX4_orderOf_69 : decode cX4_orderOf 69 = .ok (.invokevirtual 61, 3) := by decide +kernel
theorem dX4_orderOf_72 : decode cX4_orderOf 72 = .ok (.i2l, 1) := by decide +kernel
theorem dX4_orderOf_73 : decode cX4_orderOf 73 = .ok (.ladd, 1) := by decide +kernel
theorem dX4_orderOf_74 : decode cX4_orderOf 74 = .ok (.lstore_n 2, 1) := by decide +kernel
theorem dX4_orderOf_75 : decode cX4_orderOf 75 = .ok (.iload 4, 2) := by decide +kernel
theorem dX4_orderOf_77 : decode cX4_orderOf 77 = .ok (.iconst 1, 1) := by decide +kernel
theorem dX4_orderOf_78 : decode cX4_orderOf 78 = .ok (.iload 6, 2) := by decide +kernel
theorem dX4_orderOf_80 : decode cX4_orderOf 80 = .ok (.ishl, 1) := by decide +kernel
theorem dX4_orderOf_81 : decode cX4_orderOf 81 = .ok (.ior, 1) := by decide +kernel
theorem dX4_orderOf_82 : decode cX4_orderOf 82 = .ok (.istore 4, 2) := by decide +kernel
theorem dX4_orderOf_84 : decode cX4_orderOf 84 = .ok (.iinc 5 1, 3) := by decide +kernel
theorem dX4_orderOf_87 : decode cX4_orderOf 87 = .ok (.goto (-60), 3) := by decide +kernel
theorem dX4_orderOf_90 : decode cX4_orderOf 90 = .ok (.lload_n 2, 1) := by decide +kernel
theorem dX4_orderOf_91 : decode cX4_orderOf 91 = .ok (.lreturn, 1) := by decide +kernel
set_option maxRecDepth 20000 in
theorem ggX4_countWays_X4_waysBefore : GoodIn wsX4_countWays wsX4_waysBefore := goodIn_r _ [8, 3, 9, 10, 11, 7, 12, 2, 13, 14, 15, 16, 17, 18, 19] (by decide +kernel) (by decide +kernel)
set_option maxRecDepth 20000 in
theorem gX4_countWays_X4_waysBefore : GoodIn wsX4_countWays (wsV RX4 61 RX4 yX4_waysBefore wsX4_waysBefore) := goodIn_app (goodIn_of _ (by decide +kernel)) ggX4_countWays_X4_waysBefore
theorem dX4_countWays_0 : decode cX4_countWays 0 = .ok (.aload_n 0, 1) := by decide +kernel
theorem dX4_countWays_1 : decode cX4_countWays 1 = .ok (.getfield 34, 3) := by decide +kernel
theorem dX4_countWays_4 : decode cX4_countWays 4 = .ok (.ifCond .eq 4, 3) := by decide +kernel
theorem dX4_countWays_7 : decode cX4_countWays 7 = .ok (.return_, 1) := by decide +kernel
theorem dX4_countWays_8 : decode cX4_countWays 8 = .ok (.iconst 1, 1) := by decide +kernel
theorem dX4_countWays_9 : decode cX4_countWays 9 = .ok (.aload_n 0, 1) := by decide +kernel
theorem dX4_countWays_10 : decode cX4_countWays 10 = .ok (.getfield 30, 3) := by decide +kernel
theorem dX4_countWays_13 : decode cX4_countWays 13 = .ok (.ishl, 1) := by decide +kernel
theorem dX4_countWays_14 : decode cX4_countWays 14 = .ok (.iconst 1, 1) := by decide +kernel
theorem dX4_countWays_15 : decode cX4_countWays 15 = .ok (.isub, 1) := by decide +kernel
theorem dX4_countWays_16 : decode cX4_countWays 16 = .ok (.istore_n 1, 1) := by decide +kernel
theorem dX4_countWays_17 : decode cX4_countWays 17 = .ok (.aload_n 0, 1) := by decide +kernel
theorem dX4_countWays_18 : decode cX4_countWays 18 = .ok (.getfield 21, 3) := by decide +kernel
theorem dX4_countWays_21 : decode cX4_countWays 21 = .ok (.iload_n 1, 1) := by decide +kernel
theorem dX4_countWays_22 : decode cX4_countWays 22 = .ok (.iconst 1, 1) := by decide +kernel
theorem dX4_countWays_23 : decode cX4_countWays 23 = .ok (.iastore, 1) := by decide +kernel
theorem dX4_countWays_24 : decode cX4_countWays 24 = .ok (.iload_n 1, 1) := by decide +kernel
theorem dX4_countWays_25 : decode cX4_countWays 25 = .ok (.iconst 1, 1) := by decide +kernel
theorem dX4_countWays_26 : decode cX4_countWays 26 = .ok (.isub, 1) := by decide +kernel
theorem dX4_countWays_27 : decode cX4_countWays 27 = .ok (.istore_n 2, 1) := by decide +kernel
theorem dX4_countWays_28 : decode cX4_countWays 28 = .ok (.iload_n 2, 1) := by decide +kernel
theorem dX4_countWays_29 : decode cX4_countWays 29 = .ok (.ifCond .lt 24, 3) := by decide +kernel
theorem dX4_countWays_32 : decode cX4_countWays 32 = .ok (.aload_n 0, 1) := by decide +kernel
theorem dX4_countWays_33 : decode cX4_countWays 33 = .ok (.getfield 21, 3) := by decide +kernel
theorem dX4_countWays_36 : decode cX4_countWays 36 = .ok (.iload_n 2, 1) := by decide +kernel
theorem dX4_countWays_37 : decode cX4_countWays 37 = .ok (.aload_n 0, 1) := by decide +kernel
theorem dX4_countWays_38 : decode cX4_countWays 38 = .ok (.iload_n 2, 1) := by decide +kernel
theorem dX4_countWays_39 : decode cX4_countWays 39 = .ok (.aload_n 0, 1) := by decide +kernel
theorem dX4_countWays_40 : decode cX4_countWays 40 = .ok (.getfield 30, 3) := by decide +kernel
theorem dX4_countWays_43 : decode cX4_countWays 43 = .ok (.invokevirtual 61, 3) := by decide +kernel
theorem dX4_countWays_46 : decode cX4_countWays 46 = .ok (.iastore, 1) := by decide +kernel
theorem dX4_countWays_47 : decode cX4_countWays 47 = .ok (.iinc 2 (-1), 3) := by decide +kernel
theorem dX4_countWays_50 : decode cX4_countWays 50 = .ok (.goto (-22), 3) := by decide +kernel
theorem dX4_countWays_53 : decode cX4_countWays 53 = .ok (.aload_n 0, 1) := by decide +kernel
theorem dX4_countWays_54 : decode cX4_countWays 54 = .ok (.iconst 1, 1) := by decide +kernel
theorem dX4_countWays_55 : decode cX4_countWays 55 = .ok (.putfield 34, 3) := by decide +kernel
theorem dX4_countWays_58 : decode cX4_countWays 58 = .ok (.return_, 1) := by decide +kernel
theorem dX4_mayCome_0 : decode cX4_mayCome 0 = .ok (.iload_n 1, 1) := by decide +kernel
theorem dX4_mayCome_1 : decode cX4_mayCome 1 = .ok (.ifCond .lt 36, 3) := by decide +kernel
theorem dX4_mayCome_4 : decode cX4_mayCome 4 = .ok (.iload_n 1, 1) := by decide +kernel
theorem dX4_mayCome_5 : decode cX4_mayCome 5 = .ok (.aload_n 0, 1) := by decide +kernel
theorem dX4_mayCome_6 : decode cX4_mayCome 6 = .ok (.getfield 30, 3) := by decide +kernel
theorem dX4_mayCome_9 : decode cX4_mayCome 9 = .ok (.if_icmp .ge 28, 3) := by decide +kernel
theorem dX4_mayCome_12 : decode cX4_mayCome 12 = .ok (.iload_n 2, 1) := by decide +kernel
theorem dX4_mayCome_13 : decode cX4_mayCome 13 = .ok (.iload_n 1, 1) := by decide +kernel
theorem dX4_mayCome_14 : decode cX4_mayCome 14 = .ok (.ishr, 1) := by decide +kernel
theorem dX4_mayCome_15 : decode cX4_mayCome 15 = .ok (.iconst 1, 1) := by decide +kernel
theorem dX4_mayCome_16 : decode cX4_mayCome 16 = .ok (.iand, 1) := by decide +kernel
theorem dX4_mayCome_17 : decode cX4_mayCome 17 = .ok (.ifCond .ne 20, 3) := by decide +kernel
theorem dX4_mayCome_20 : decode cX4_mayCome 20 = .ok (.aload_n 0, 1) := by decide +kernel
theorem dX4_mayCome_21 : decode cX4_mayCome 21 = .ok (.getfield 18, 3) := by decide +kernel
theorem dX4_mayCome_24 : decode cX4_mayCome 24 = .ok (.iload_n 1, 1) := by decide +kernel
theorem dX4_mayCome_25 : decode cX4_mayCome 25 = .ok (.iaload, 1) := by decide +kernel
theorem dX4_mayCome_26 : decode cX4_mayCome 26 = .ok (.iload_n 2, 1) := by decide +kernel
theorem dX4_mayCome_27 : decode cX4_mayCome 27 = .ok (.iconst (-1), 1) := by decide +kernel
theorem dX4_mayCome_28 : decode cX4_mayCome 28 = .ok (.ixor, 1) := by decide +kernel
theorem dX4_mayCome_29 : decode cX4_mayCome 29 = .ok (.iand, 1) := by decide +kernel
theorem dX4_mayCome_30 : decode cX4_mayCome 30 = .ok (.ifCond .ne 7, 3) := by decide +kernel
theorem dX4_mayCome_33 : decode cX4_mayCome 33 = .ok (.iconst 1, 1) := by decide +kernel
theorem dX4_mayCome_34 : decode cX4_mayCome 34 = .ok (.goto 4, 3) := by decide +kernel
theorem dX4_mayCome_37 : decode cX4_mayCome 37 = .ok (.iconst 0, 1) := by decide +kernel
theorem dX4_mayCome_38 : decode cX4_mayCome 38 = .ok (.ireturn, 1) := by decide +kernel
set_option maxRecDepth 20000 in
theorem ggX4_waysBefore_X4_mayCome : GoodIn wsX4_waysBefore wsX4_mayCome := goodIn_r _ [6, 7, 8, 9, 10, 11, 12, 13, 14] (by decide +kernel) (by decide +kernel)
set_option maxRecDepth 20000 in
theorem gX4_waysBefore_X4_mayCome : GoodIn wsX4_waysBefore (wsV RX4 79 RX4 yX4_mayCome wsX4_mayCome) := goodIn_app (goodIn_of _ (by decide +kernel)) ggX4_waysBefore_X4_mayCome
theorem dX4_waysBefore_0 : decode cX4_waysBefore 0 = .ok (.iconst 0, 1) := by decide +kernel
theorem dX4_waysBefore_1 : decode cX4_waysBefore 1 = .ok (.istore_n 3, 1) := by decide +kernel
theorem dX4_waysBefore_2 : decode cX4_waysBefore 2 = .ok (.iconst 0, 1) := by decide +kernel
theorem dX4_waysBefore_3 : decode cX4_waysBefore 3 = .ok (.istore 4, 2) := by decide +kernel
theorem dX4_waysBefore_5 : decode cX4_waysBefore 5 = .ok (.iload 4, 2) := by decide +kernel
theorem dX4_waysBefore_7 : decode cX4_waysBefore 7 = .ok (.iload_n 2, 1) := by decide +kernel
theorem dX4_waysBefore_8 : decode cX4_waysBefore 8 = .ok (.if_icmp .ge 33, 3) := by decide +kernel
theorem dX4_waysBefore_11 : decode cX4_waysBefore 11 = .ok (.aload_n 0, 1) := by decide +kernel
theorem dX4_waysBefore_12 : decode cX4_waysBefore 12 = .ok (.iload 4, 2) := by decide +kernel
theorem dX4_waysBefore_14 : decode cX4_waysBefore 14 = .ok (.iload_n 1, 1) := by decide +kernel
theorem dX4_waysBefore_15 : decode cX4_waysBefore 15 = .ok (.invokevirtual 79, 3) := by decide +kernel
theorem dX4_waysBefore_18 : decode cX4_waysBefore 18 = .ok (.ifCond .eq 17, 3) := by decide +kernel
theorem dX4_waysBefore_21 : decode cX4_waysBefore 21 = .ok (.iload_n 3, 1) := by decide +kernel
theorem dX4_waysBefore_22 : decode cX4_waysBefore 22 = .ok (.aload_n 0, 1) := by decide +kernel
theorem dX4_waysBefore_23 : decode cX4_waysBefore 23 = .ok (.getfield 21, 3) := by decide +kernel
theorem dX4_waysBefore_26 : decode cX4_waysBefore 26 = .ok (.iload_n 1, 1) := by decide +kernel
theorem dX4_waysBefore_27 : decode cX4_waysBefore 27 = .ok (.iconst 1, 1) := by decide +kernel
theorem dX4_waysBefore_28 : decode cX4_waysBefore 28 = .ok (.iload 4, 2) := by decide +kernel
theorem dX4_waysBefore_30 : decode cX4_waysBefore 30 = .ok (.ishl, 1) := by decide +kernel
theorem dX4_waysBefore_31 : decode cX4_waysBefore 31 = .ok (.ior, 1) := by decide +kernel
theorem dX4_waysBefore_32 : decode cX4_waysBefore 32 = .ok (.iaload, 1) := by decide +kernel
theorem dX4_waysBefore_33 : decode cX4_waysBefore 33 = .ok (.iadd, 1) := by decide +kernel
theorem dX4_waysBefore_34 : decode cX4_waysBefore 34 = .ok (.istore_n 3, 1) := by decide +kernel
theorem dX4_waysBefore_35 : decode cX4_waysBefore 35 = .ok (.iinc 4 1, 3) := by decide +kernel
theorem dX4_waysBefore_38 : decode cX4_waysBefore 38 = .ok (.goto (-33), 3) := by decide +kernel
theorem dX4_waysBefore_41 : decode cX4_waysBefore 41 = .ok (.iload_n 3, 1) := by decide +kernel
theorem dX4_waysBefore_42 : decode cX4_waysBefore 42 = .ok (.ireturn, 1) := by decide +kernel
set_option maxRecDepth 20000 in
theorem ggX4_nextRank_X4_mayCome : GoodIn wsX4_nextRank wsX4_mayCome := goodIn_r _ [6, 1, 7, 13, 14, 15, 16, 17, 18] (by decide +kernel) (by decide +kernel)
set_option maxRecDepth 20000 in
theorem gX4_nextRank_X4_mayCome : GoodIn wsX4_nextRank (wsV RX4 79 RX4 yX4_mayCome wsX4_mayCome) := goodIn_app (goodIn_of _ (by decide +kernel)) ggX4_nextRank_X4_mayCome
set_option maxRecDepth 20000 in
theorem ggX4_nextRank_X4_waysBefore : GoodIn wsX4_nextRank wsX4_waysBefore := goodIn_r _ [11, 12, 2, 3, 4, 5, 6, 1, 7, 13, 14, 15, 16, 17, 18] (by decide +kernel) (by decide +kernel)
set_option maxRecDepth 20000 in
theorem gX4_nextRank_X4_waysBefore : GoodIn wsX4_nextRank (wsV RX4 61 RX4 yX4_waysBefore wsX4_waysBefore) := goodIn_app (goodIn_of _ (by decide +kernel)) ggX4_nextRank_X4_waysBefore
theorem dX4_nextRank_0 : decode cX4_nextRank 0 = .ok (.iconst 0, 1) := by decide +kernel
theorem dX4_nextRank_1 : decode cX4_nextRank 1 = .ok (.istore 4, 2) := by decide +kernel
theorem dX4_nextRank_3 : decode cX4_nextRank 3 = .ok (.iconst 0, 1) := by decide +kernel
theorem dX4_nextRank_4 : decode cX4_nextRank 4 = .ok (.istore 5, 2) := by decide +kernel
theorem dX4_nextRank_6 : decode cX4_nextRank 6 = .ok (.iload 5, 2) := by decide +kernel
theorem dX4_nextRank_8 : decode cX4_nextRank 8 = .ok (.aload_n 0, 1) := by decide +kernel
theorem dX4_nextRank_9 : decode cX4_nextRank 9 = .ok (.getfield 30, 3) := by decide +kernel
theorem dX4_nextRank_12 : decode cX4_nextRank 12 = .ok (.if_icmp .ge 36, 3) := by decide +kernel
theorem dX4_nextRank_15 : decode cX4_nextRank 15 = .ok (.aload_n 0, 1) := by decide +kernel
theorem dX4_nextRank_16 : decode cX4_nextRank 16 = .ok (.iload 5, 2) := by decide +kernel
theorem dX4_nextRank_18 : decode cX4_nextRank 18 = .ok (.iload_n 1, 1) := by decide +kernel
theorem dX4_nextRank_19 : decode cX4_nextRank 19 = .ok (.invokevirtual 79, 3) := by decide +kernel
theorem dX4_nextRank_22 : decode cX4_nextRank 22 = .ok (.ifCond .eq 20, 3) := by decide +kernel
theorem dX4_nextRank_25 : decode cX4_nextRank 25 = .ok (.aload_n 0, 1) := by decide +kernel
theorem dX4_nextRank_26 : decode cX4_nextRank 26 = .ok (.iload_n 1, 1) := by decide +kernel
theorem dX4_nextRank_27 : decode cX4_nextRank 27 = .ok (.iload 5, 2) := by decide +kernel
theorem dX4_nextRank_29 : decode cX4_nextRank 29 = .ok (.invokevirtual 61, 3) := by decide +kernel
theorem dX4_nextRank_32 : decode cX4_nextRank 32 = .ok (.i2l, 1) := by decide +kernel
theorem dX4_nextRank_33 : decode cX4_nextRank 33 = .ok (.lload_n 2, 1) := by decide +kernel
theorem dX4_nextRank_34 : decode cX4_nextRank 34 = .ok (.lcmp, 1) := by decide +kernel
theorem dX4_nextRank_35 : decode cX4_nextRank 35 = .ok (.ifCond .gt 7, 3) := by decide +kernel
theorem dX4_nextRank_38 : decode cX4_nextRank 38 = .ok (.iload 5, 2) := by decide +kernel
theorem dX4_nextRank_40 : decode cX4_nextRank 40 = .ok (.istore 4, 2) := by decide +kernel
theorem dX4_nextRank_42 : decode cX4_nextRank 42 = .ok (.iinc 5 1, 3) := by decide +kernel
theorem dX4_nextRank_45 : decode cX4_nextRank 45 = .ok (.goto (-39), 3) := by decide +kernel
theorem dX4_nextRank_48 : decode cX4_nextRank 48 = .ok (.iload 4, 2) := by decide +kernel
theorem dX4_nextRank_50 : decode cX4_nextRank 50 = .ok (.ireturn, 1) := by decide +kernel
set_option maxRecDepth 20000 in
theorem ggX5_init_X1_init : GoodIn wsX5_init wsX1_init := goodIn_r _ [30, 31, 2, 3, 21, 32, 33, 34, 35, 36, 67, 68, 69, 70, 71, 72] (by decide +kernel) (by decide +kernel)
set_option maxRecDepth 20000 in
theorem gX5_init_X1_init_n9 : GoodIn wsX5_init (wsX1_init) := ggX5_init_X1_init
set_option maxRecDepth 20000 in
theorem ggX5_init_X4_init : GoodIn wsX5_init wsX4_init := goodIn_r _ [39, 40, 2, 3, 21, 41, 42, 43, 44, 45, 46, 47, 48, 83, 84, 85, 86, 87, 88] (by decide +kernel) (by decide +kernel)
set_option maxRecDepth 20000 in
theorem gX5_init_X4_init : GoodIn wsX5_init (wsX4_init) := ggX5_init_X4_init
set_option maxRecDepth 20000 in
theorem ggX5_init_X0_init : GoodIn wsX5_init wsX0_init := goodIn_r _ [50, 51, 2, 3, 21, 52, 89, 90] (by decide +kernel) (by decide +kernel)
set_option maxRecDepth 20000 in
theorem gX5_init_X0_init_n25 : GoodIn wsX5_init (wsX0_init) := ggX5_init_X0_init
set_option maxRecDepth 20000 in
theorem ggX5_init_X3_init : GoodIn wsX5_init wsX3_init := goodIn_r _ [55, 56, 2, 3, 21, 57, 58, 59, 60, 61, 91, 92, 93, 94, 95, 96, 97, 98, 99, 100] (by decide +kernel) (by decide +kernel)
set_option maxRecDepth 20000 in
theorem gX5_init_X3_init : GoodIn wsX5_init (wsX3_init) := ggX5_init_X3_init
set_option maxRecDepth 20000 in
theorem ggX5_init_X2_init : GoodIn wsX5_init wsX2_init := goodIn_r _ [63, 64, 2, 3, 21, 65, 66, 101, 102, 103] (by decide +kernel) (by decide +kernel)
set_option maxRecDepth 20000 in
theorem gX5_init_X2_init_n46 : GoodIn wsX5_init (wsX2_init) := ggX5_init_X2_init
theorem dX5_init_0 : decode cX5_init 0 = .ok (.aload_n 0, 1) := by decide +kernel
theorem dX5_init_1 : decode cX5_init 1 = .ok (.invokespecial 1, 3) := by decide +kernel
theorem dX5_init_4 : decode cX5_init 4 = .ok (.aload_n 0, 1) := by decide +kernel
theorem dX5_init_5 : decode cX5_init 5 = .ok (.new 7, 3) := by decide +kernel
theorem dX5_init_8 : decode cX5_init 8 = .ok (.dup, 1) := by decide +kernel
theorem dX5_init_9 : decode cX5_init 9 = .ok (.invokespecial 9, 3) := by decide +kernel
theorem dX5_init_12 : decode cX5_init 12 = .ok (.putfield 10, 3) := by decide +kernel
theorem dX5_init_15 : decode cX5_init 15 = .ok (.aload_n 0, 1) := by decide +kernel
theorem dX5_init_16 : decode cX5_init 16 = .ok (.new 16, 3) := by decide +kernel
theorem dX5_init_19 : decode cX5_init 19 = .ok (.dup, 1) := by decide +kernel
theorem dX5_init_20 : decode cX5_init 20 = .ok (.invokespecial 18, 3) := by decide +kernel
theorem dX5_init_23 : decode cX5_init 23 = .ok (.putfield 19, 3) := by decide +kernel
theorem dX5_init_26 : decode cX5_init 26 = .ok (.aload_n 0, 1) := by decide +kernel
theorem dX5_init_27 : decode cX5_init 27 = .ok (.new 23, 3) := by decide +kernel
theorem dX5_init_30 : decode cX5_init 30 = .ok (.dup, 1) := by decide +kernel
theorem dX5_init_31 : decode cX5_init 31 = .ok (.invokespecial 25, 3) := by decide +kernel
theorem dX5_init_34 : decode cX5_init 34 = .ok (.putfield 26, 3) := by decide +kernel
theorem dX5_init_37 : decode cX5_init 37 = .ok (.aload_n 0, 1) := by decide +kernel
theorem dX5_init_38 : decode cX5_init 38 = .ok (.new 30, 3) := by decide +kernel
theorem dX5_init_41 : decode cX5_init 41 = .ok (.dup, 1) := by decide +kernel
theorem dX5_init_42 : decode cX5_init 42 = .ok (.aload_n 0, 1) := by decide +kernel
theorem dX5_init_43 : decode cX5_init 43 = .ok (.getfield 10, 3) := by decide +kernel
theorem dX5_init_46 : decode cX5_init 46 = .ok (.aload_n 0, 1) := by decide +kernel
theorem dX5_init_47 : decode cX5_init 47 = .ok (.getfield 19, 3) := by decide +kernel
theorem dX5_init_50 : decode cX5_init 50 = .ok (.aload_n 0, 1) := by decide +kernel
theorem dX5_init_51 : decode cX5_init 51 = .ok (.getfield 26, 3) := by decide +kernel
theorem dX5_init_54 : decode cX5_init 54 = .ok (.invokespecial 32, 3) := by decide +kernel
theorem dX5_init_57 : decode cX5_init 57 = .ok (.putfield 35, 3) := by decide +kernel
theorem dX5_init_60 : decode cX5_init 60 = .ok (.aload_n 0, 1) := by decide +kernel
theorem dX5_init_61 : decode cX5_init 61 = .ok (.bipush 8, 2) := by decide +kernel
theorem dX5_init_63 : decode cX5_init 63 = .ok (.bipush 6, 2) := by decide +kernel
theorem dX5_init_65 : decode cX5_init 65 = .ok (.multianewarray 39 2, 4) := by decide +kernel
theorem dX5_init_69 : decode cX5_init 69 = .ok (.putfield 41, 3) := by decide +kernel
theorem dX5_init_72 : decode cX5_init 72 = .ok (.aload_n 0, 1) := by decide +kernel
theorem dX5_init_73 : decode cX5_init 73 = .ok (.new 44, 3) := by decide +kernel
theorem dX5_init_76 : decode cX5_init 76 = .ok (.dup, 1) := by decide +kernel
theorem dX5_init_77 : decode cX5_init 77 = .ok (.invokespecial 46, 3) := by decide +kernel
theorem dX5_init_80 : decode cX5_init 80 = .ok (.putfield 47, 3) := by decide +kernel
theorem dX5_init_83 : decode cX5_init 83 = .ok (.aload_n 0, 1) := by decide +kernel
theorem dX5_init_84 : decode cX5_init 84 = .ok (.new 44, 3) := by decide +kernel
theorem dX5_init_87 : decode cX5_init 87 = .ok (.dup, 1) := by decide +kernel
theorem dX5_init_88 : decode cX5_init 88 = .ok (.invokespecial 46, 3) := by decide +kernel
theorem dX5_init_91 : decode cX5_init 91 = .ok (.putfield 51, 3) := by decide +kernel
theorem dX5_init_94 : decode cX5_init 94 = .ok (.aload_n 0, 1) := by decide +kernel
theorem dX5_init_95 : decode cX5_init 95 = .ok (.new 44, 3) := by decide +kernel
theorem dX5_init_98 : decode cX5_init 98 = .ok (.dup, 1) := by decide +kernel
theorem dX5_init_99 : decode cX5_init 99 = .ok (.invokespecial 46, 3) := by decide +kernel
theorem dX5_init_102 : decode cX5_init 102 = .ok (.putfield 54, 3) := by decide +kernel
theorem dX5_init_105 : decode cX5_init 105 = .ok (.return_, 1) := by decide +kernel
set_option maxRecDepth 20000 in
theorem ggX5_line_X5_refusalOfLine : GoodIn wsX5_line wsX5_refusalOfLine := goodIn_r _ [7, 8, 9, 10, 11, 12, 13, 14, 15, 56, 57, 58, 59, 60, 61, 62, 63, 64, 65, 78, 79] (by decide +kernel) (by decide +kernel)
set_option maxRecDepth 20000 in
theorem gX5_line_X5_refusalOfLine : GoodIn wsX5_line (wsV RX5 64 RX5 yX5_refusalOfLine wsX5_refusalOfLine) := goodIn_app (goodIn_of _ (by decide +kernel)) ggX5_line_X5_refusalOfLine
set_option maxRecDepth 20000 in
theorem ggX5_line_X1_add : GoodIn wsX5_line wsX1_add := goodIn_r _ [19, 20, 21, 22, 23, 24, 25, 26, 27, 28, 11, 29, 66, 67, 68, 69, 70, 71] (by decide +kernel) (by decide +kernel)
set_option maxRecDepth 20000 in
theorem gX5_line_X1_add : GoodIn wsX5_line (wsV RX5 68 RX1 yX1_add wsX1_add) := goodIn_app (goodIn_of _ (by decide +kernel)) ggX5_line_X1_add
set_option maxRecDepth 20000 in
theorem ggX5_line_X4_join : GoodIn wsX5_line wsX4_join := goodIn_r _ [34, 35, 36, 37, 38, 39, 40, 41, 42, 11, 43, 44, 45, 46, 47, 21, 26, 27, 28, 29, 20, 48, 49, 50, 51, 22, 52, 53, 54, 55, 23, 72, 73, 74, 75, 76, 77, 66, 67, 68, 69, 70, 71] (by decide +kernel) (by decide +kernel)
set_option maxRecDepth 20000 in
theorem gX5_line_X4_join : GoodIn wsX5_line (wsV RX5 72 RX4 yX4_join wsX4_join) := goodIn_app (goodIn_of _ (by decide +kernel)) ggX5_line_X4_join
theorem dX5_line_0 : decode cX5_line 0 = .ok (.aload_n 0, 1) := by decide +kernel
theorem dX5_line_1 : decode cX5_line 1 = .ok (.iload_n 1, 1) := by decide +kernel
theorem dX5_line_2 : decode cX5_line 2 = .ok (.iload_n 2, 1) := by decide +kernel
theorem dX5_line_3 : decode cX5_line 3 = .ok (.iload_n 3, 1) := by decide +kernel
theorem dX5_line_4 : decode cX5_line 4 = .ok (.aload_n 0, 1) := by decide +kernel
theorem dX5_line_5 : decode cX5_line 5 = .ok (.getfield 10, 3) := by decide +kernel
theorem dX5_line_8 : decode cX5_line 8 = .ok (.getfield 57, 3) := by decide +kernel
theorem dX5_line_11 : decode cX5_line 11 = .ok (.bipush 16, 2) := by decide +kernel
theorem dX5_line_13 : decode cX5_line 13 = .ok (.if_icmp .ge 15, 3) := by decide +kernel
theorem dX5_line_16 : decode cX5_line 16 = .ok (.aload_n 0, 1) := by decide +kernel
theorem dX5_line_17 : decode cX5_line 17 = .ok (.getfield 19, 3) := by decide +kernel
theorem dX5_line_20 : decode cX5_line 20 = .ok (.getfield 61, 3) := by decide +kernel
theorem dX5_line_23 : decode cX5_line 23 = .ok (.bipush 12, 2) := by decide +kernel
theorem dX5_line_25 : decode cX5_line 25 = .ok (.if_icmp .lt 7, 3) := by decide +kernel
theorem dX5_line_28 : decode cX5_line 28 = .ok (.iconst 1, 1) := by decide +kernel
theorem dX5_line_29 : decode cX5_line 29 = .ok (.goto 4, 3) := by decide +kernel
theorem dX5_line_32 : decode cX5_line 32 = .ok (.iconst 0, 1) := by decide +kernel
theorem dX5_line_33 : decode cX5_line 33 = .ok (.invokevirtual 64, 3) := by decide +kernel
theorem dX5_line_36 : decode cX5_line 36 = .ok (.istore 4, 2) := by decide +kernel
theorem dX5_line_38 : decode cX5_line 38 = .ok (.iload 4, 2) := by decide +kernel
theorem dX5_line_40 : decode cX5_line 40 = .ok (.ifCond .eq 6, 3) := by decide +kernel
theorem dX5_line_43 : decode cX5_line 43 = .ok (.iload 4, 2) := by decide +kernel
theorem dX5_line_45 : decode cX5_line 45 = .ok (.ireturn, 1) := by decide +kernel
theorem dX5_line_46 : decode cX5_line 46 = .ok (.aload_n 0, 1) := by decide +kernel
theorem dX5_line_47 : decode cX5_line 47 = .ok (.getfield 10, 3) := by decide +kernel
theorem dX5_line_50 : decode cX5_line 50 = .ok (.iload_n 1, 1) := by decide +kernel
theorem dX5_line_51 : decode cX5_line 51 = .ok (.iload_n 2, 1) := by decide +kernel
theorem dX5_line_52 : decode cX5_line 52 = .ok (.iload_n 3, 1) := by decide +kernel
theorem dX5_line_53 : decode cX5_line 53 = .ok (.iconst 0, 1) := by decide +kernel
theorem dX5_line_54 : decode cX5_line 54 = .ok (.iconst (-1), 1) := by decide +kernel
theorem dX5_line_55 : decode cX5_line 55 = .ok (.invokevirtual 68, 3) := by decide +kernel
theorem dX5_line_58 : decode cX5_line 58 = .ok (.istore 5, 2) := by decide +kernel
theorem dX5_line_60 : decode cX5_line 60 = .ok (.aload_n 0, 1) := by decide +kernel
theorem dX5_line_61 : decode cX5_line 61 = .ok (.getfield 19, 3) := by decide +kernel
theorem dX5_line_64 : decode cX5_line 64 = .ok (.aload_n 0, 1) := by decide +kernel
theorem dX5_line_65 : decode cX5_line 65 = .ok (.getfield 10, 3) := by decide +kernel
theorem dX5_line_68 : decode cX5_line 68 = .ok (.iload 5, 2) := by decide +kernel
theorem dX5_line_70 : decode cX5_line 70 = .ok (.invokevirtual 72, 3) := by decide +kernel
theorem dX5_line_73 : decode cX5_line 73 = .ok (.iload 5, 2) := by decide +kernel
theorem dX5_line_75 : decode cX5_line 75 = .ok (.ireturn, 1) := by decide +kernel
set_option maxRecDepth 20000 in
theorem ggX5_decoy_X5_refusalOfLine : GoodIn wsX5_decoy wsX5_refusalOfLine := goodIn_r _ [6, 7, 8, 9, 10, 11, 12, 13, 14, 29, 30, 31, 32, 33, 34, 35, 36, 37, 38, 45, 46] (by decide +kernel) (by decide +kernel)
set_option maxRecDepth 20000 in
theorem gX5_decoy_X5_refusalOfLine : GoodIn wsX5_decoy (wsV RX5 64 RX5 yX5_refusalOfLine wsX5_refusalOfLine) := goodIn_app (goodIn_of _ (by decide +kernel)) ggX5_decoy_X5_refusalOfLine
set_option maxRecDepth 20000 in
theorem ggX5_decoy_X1_add : GoodIn wsX5_decoy wsX1_add := goodIn_r _ [18, 19, 20, 21, 22, 23, 24, 25, 26, 27, 10, 28, 39, 40, 41, 42, 43, 44] (by decide +kernel) (by decide +kernel)
set_option maxRecDepth 20000 in
theorem gX5_decoy_X1_add : GoodIn wsX5_decoy (wsV RX5 68 RX1 yX1_add wsX1_add) := goodIn_app (goodIn_of _ (by decide +kernel)) ggX5_decoy_X1_add
theorem dX5_decoy_0 : decode cX5_decoy 0 = .ok (.aload_n 0, 1) := by decide +kernel
theorem dX5_decoy_1 : decode cX5_decoy 1 = .ok (.iload_n 1, 1) := by decide +kernel
theorem dX5_decoy_2 : decode cX5_decoy 2 = .ok (.iload_n 2, 1) := by decide +kernel
theorem dX5_decoy_3 : decode cX5_decoy 3 = .ok (.iload_n 3, 1) := by decide +kernel
theorem dX5_decoy_4 : decode cX5_decoy 4 = .ok (.aload_n 0, 1) := by decide +kernel
theorem dX5_decoy_5 : decode cX5_decoy 5 = .ok (.getfield 10, 3) := by decide +kernel
theorem dX5_decoy_8 : decode cX5_decoy 8 = .ok (.getfield 57, 3) := by decide +kernel
theorem dX5_decoy_11 : decode cX5_decoy 11 = .ok (.bipush 16, 2) := by decide +kernel
theorem dX5_decoy_13 : decode cX5_decoy 13 = .ok (.if_icmp .lt 7, 3) := by decide +kernel
theorem dX5_decoy_16 : decode cX5_decoy 16 = .ok (.iconst 1, 1) := by decide +kernel
theorem dX5_decoy_17 : decode cX5_decoy 17 = .ok (.goto 4, 3) := by decide +kernel
theorem dX5_decoy_20 : decode cX5_decoy 20 = .ok (.iconst 0, 1) := by decide +kernel
theorem dX5_decoy_21 : decode cX5_decoy 21 = .ok (.invokevirtual 64, 3) := by decide +kernel
theorem dX5_decoy_24 : decode cX5_decoy 24 = .ok (.istore 4, 2) := by decide +kernel
theorem dX5_decoy_26 : decode cX5_decoy 26 = .ok (.iload 4, 2) := by decide +kernel
theorem dX5_decoy_28 : decode cX5_decoy 28 = .ok (.ifCond .eq 8, 3) := by decide +kernel
theorem dX5_decoy_31 : decode cX5_decoy 31 = .ok (.iload 4, 2) := by decide +kernel
theorem dX5_decoy_33 : decode cX5_decoy 33 = .ok (.goto 15, 3) := by decide +kernel
theorem dX5_decoy_36 : decode cX5_decoy 36 = .ok (.aload_n 0, 1) := by decide +kernel
theorem dX5_decoy_37 : decode cX5_decoy 37 = .ok (.getfield 10, 3) := by decide +kernel
theorem dX5_decoy_40 : decode cX5_decoy 40 = .ok (.iload_n 1, 1) := by decide +kernel
theorem dX5_decoy_41 : decode cX5_decoy 41 = .ok (.iload_n 2, 1) := by decide +kernel
theorem dX5_decoy_42 : decode cX5_decoy 42 = .ok (.iload_n 3, 1) := by decide +kernel
theorem dX5_decoy_43 : decode cX5_decoy 43 = .ok (.iconst 1, 1) := by decide +kernel
theorem dX5_decoy_44 : decode cX5_decoy 44 = .ok (.iconst (-1), 1) := by decide +kernel
theorem dX5_decoy_45 : decode cX5_decoy 45 = .ok (.invokevirtual 68, 3) := by decide +kernel
theorem dX5_decoy_48 : decode cX5_decoy 48 = .ok (.ireturn, 1) := by decide +kernel
set_option maxRecDepth 20000 in
theorem ggX5_wrong_X1_has : GoodIn wsX5_wrong wsX1_has := goodIn_r _ [6, 7, 48, 49, 50, 51, 52, 53] (by decide +kernel) (by decide +kernel)
set_option maxRecDepth 20000 in
theorem gX5_wrong_X1_has : GoodIn wsX5_wrong (wsV RX5 76 RX1 yX1_has wsX1_has) := goodIn_app (goodIn_of _ (by decide +kernel)) ggX5_wrong_X1_has
set_option maxRecDepth 20000 in
theorem ggX5_wrong_X5_refusalOfLine : GoodIn wsX5_wrong wsX5_refusalOfLine := goodIn_r _ [12, 13, 14, 15, 5, 16, 17, 18, 19, 38, 39, 40, 41, 42, 43, 44, 45, 46, 47, 54, 55] (by decide +kernel) (by decide +kernel)
set_option maxRecDepth 20000 in
theorem gX5_wrong_X5_refusalOfLine : GoodIn wsX5_wrong (wsV RX5 64 RX5 yX5_refusalOfLine wsX5_refusalOfLine) := goodIn_app (goodIn_of _ (by decide +kernel)) ggX5_wrong_X5_refusalOfLine
set_option maxRecDepth 20000 in
theorem ggX5_wrong_X1_roleOf : GoodIn wsX5_wrong wsX1_roleOf := goodIn_r _ [23, 24, 25, 3, 4, 5, 6, 7, 48, 49, 50, 51, 52, 53] (by decide +kernel) (by decide +kernel)
set_option maxRecDepth 20000 in
theorem gX5_wrong_X1_roleOf : GoodIn wsX5_wrong (wsV RX5 80 RX1 yX1_roleOf wsX1_roleOf) := goodIn_app (goodIn_of _ (by decide +kernel)) ggX5_wrong_X1_roleOf
set_option maxRecDepth 20000 in
theorem ggX5_wrong_X1_mateOf : GoodIn wsX5_wrong wsX1_mateOf := goodIn_r _ [29, 30, 25, 3, 4, 5, 6, 7, 48, 49, 50, 51, 52, 53] (by decide +kernel) (by decide +kernel)
set_option maxRecDepth 20000 in
theorem gX5_wrong_X1_mateOf : GoodIn wsX5_wrong (wsV RX5 84 RX1 yX1_mateOf wsX1_mateOf) := goodIn_app (goodIn_of _ (by decide +kernel)) ggX5_wrong_X1_mateOf
set_option maxRecDepth 20000 in
theorem ggX5_wrong_X1_add : GoodIn wsX5_wrong wsX1_add := goodIn_r _ [34, 7, 35, 36, 37, 24, 30, 25, 3, 4, 5, 6, 48, 49, 50, 51, 52, 53] (by decide +kernel) (by decide +kernel)
set_option maxRecDepth 20000 in
theorem gX5_wrong_X1_add : GoodIn wsX5_wrong (wsV RX5 68 RX1 yX1_add wsX1_add) := goodIn_app (goodIn_of _ (by decide +kernel)) ggX5_wrong_X1_add
theorem dX5_wrong_0 : decode cX5_wrong 0 = .ok (.aload_n 0, 1) := by decide +kernel
theorem dX5_wrong_1 : decode cX5_wrong 1 = .ok (.getfield 10, 3) := by decide +kernel
theorem dX5_wrong_4 : decode cX5_wrong 4 = .ok (.iload_n 1, 1) := by decide +kernel
theorem dX5_wrong_5 : decode cX5_wrong 5 = .ok (.invokevirtual 76, 3) := by decide +kernel
theorem dX5_wrong_8 : decode cX5_wrong 8 = .ok (.ifCond .ne 6, 3) := by decide +kernel
theorem dX5_wrong_11 : decode cX5_wrong 11 = .ok (.bipush (-101), 2) := by decide +kernel
theorem dX5_wrong_13 : decode cX5_wrong 13 = .ok (.ireturn, 1) := by decide +kernel
theorem dX5_wrong_14 : decode cX5_wrong 14 = .ok (.aload_n 0, 1) := by decide +kernel
theorem dX5_wrong_15 : decode cX5_wrong 15 = .ok (.iload_n 2, 1) := by decide +kernel
theorem dX5_wrong_16 : decode cX5_wrong 16 = .ok (.iload_n 3, 1) := by decide +kernel
theorem dX5_wrong_17 : decode cX5_wrong 17 = .ok (.iload 4, 2) := by decide +kernel
theorem dX5_wrong_19 : decode cX5_wrong 19 = .ok (.aload_n 0, 1) := by decide +kernel
theorem dX5_wrong_20 : decode cX5_wrong 20 = .ok (.getfield 10, 3) := by decide +kernel
theorem dX5_wrong_23 : decode cX5_wrong 23 = .ok (.getfield 57, 3) := by decide +kernel
theorem dX5_wrong_26 : decode cX5_wrong 26 = .ok (.bipush 16, 2) := by decide +kernel
theorem dX5_wrong_28 : decode cX5_wrong 28 = .ok (.if_icmp .lt 7, 3) := by decide +kernel
theorem dX5_wrong_31 : decode cX5_wrong 31 = .ok (.iconst 1, 1) := by decide +kernel
theorem dX5_wrong_32 : decode cX5_wrong 32 = .ok (.goto 4, 3) := by decide +kernel
theorem dX5_wrong_35 : decode cX5_wrong 35 = .ok (.iconst 0, 1) := by decide +kernel
theorem dX5_wrong_36 : decode cX5_wrong 36 = .ok (.invokevirtual 64, 3) := by decide +kernel
theorem dX5_wrong_39 : decode cX5_wrong 39 = .ok (.istore 5, 2) := by decide +kernel
theorem dX5_wrong_41 : decode cX5_wrong 41 = .ok (.iload 5, 2) := by decide +kernel
theorem dX5_wrong_43 : decode cX5_wrong 43 = .ok (.ifCond .eq 10, 3) := by decide +kernel
theorem dX5_wrong_46 : decode cX5_wrong 46 = .ok (.iload 5, 2) := by decide +kernel
theorem dX5_wrong_48 : decode cX5_wrong 48 = .ok (.bipush (-104), 2) := by decide +kernel
theorem dX5_wrong_50 : decode cX5_wrong 50 = .ok (.if_icmp .ne 47, 3) := by decide +kernel
theorem dX5_wrong_53 : decode cX5_wrong 53 = .ok (.aload_n 0, 1) := by decide +kernel
theorem dX5_wrong_54 : decode cX5_wrong 54 = .ok (.getfield 10, 3) := by decide +kernel
theorem dX5_wrong_57 : decode cX5_wrong 57 = .ok (.iload_n 1, 1) := by decide +kernel
theorem dX5_wrong_58 : decode cX5_wrong 58 = .ok (.invokevirtual 80, 3) := by decide +kernel
theorem dX5_wrong_61 : decode cX5_wrong 61 = .ok (.ifCond .ne 19, 3) := by decide +kernel
theorem dX5_wrong_64 : decode cX5_wrong 64 = .ok (.aload_n 0, 1) := by decide +kernel
theorem dX5_wrong_65 : decode cX5_wrong 65 = .ok (.getfield 10, 3) := by decide +kernel
theorem dX5_wrong_68 : decode cX5_wrong 68 = .ok (.iload_n 1, 1) := by decide +kernel
theorem dX5_wrong_69 : decode cX5_wrong 69 = .ok (.invokevirtual 84, 3) := by decide +kernel
theorem dX5_wrong_72 : decode cX5_wrong 72 = .ok (.iconst (-1), 1) := by decide +kernel
theorem dX5_wrong_73 : decode cX5_wrong 73 = .ok (.if_icmp .ne 7, 3) := by decide +kernel
theorem dX5_wrong_76 : decode cX5_wrong 76 = .ok (.iconst 1, 1) := by decide +kernel
theorem dX5_wrong_77 : decode cX5_wrong 77 = .ok (.goto 4, 3) := by decide +kernel
theorem dX5_wrong_80 : decode cX5_wrong 80 = .ok (.iconst 0, 1) := by decide +kernel
theorem dX5_wrong_81 : decode cX5_wrong 81 = .ok (.istore 6, 2) := by decide +kernel
theorem dX5_wrong_83 : decode cX5_wrong 83 = .ok (.iload 6, 2) := by decide +kernel
theorem dX5_wrong_85 : decode cX5_wrong 85 = .ok (.ifCond .eq 8, 3) := by decide +kernel
theorem dX5_wrong_88 : decode cX5_wrong 88 = .ok (.iload 5, 2) := by decide +kernel
theorem dX5_wrong_90 : decode cX5_wrong 90 = .ok (.goto 5, 3) := by decide +kernel
theorem dX5_wrong_93 : decode cX5_wrong 93 = .ok (.bipush (-103), 2) := by decide +kernel
theorem dX5_wrong_95 : decode cX5_wrong 95 = .ok (.istore 5, 2) := by decide +kernel
theorem dX5_wrong_97 : decode cX5_wrong 97 = .ok (.iload 5, 2) := by decide +kernel
theorem dX5_wrong_99 : decode cX5_wrong 99 = .ok (.ifCond .eq 8, 3) := by decide +kernel
theorem dX5_wrong_102 : decode cX5_wrong 102 = .ok (.iload 5, 2) := by decide +kernel
theorem dX5_wrong_104 : decode cX5_wrong 104 = .ok (.goto 16, 3) := by decide +kernel
theorem dX5_wrong_107 : decode cX5_wrong 107 = .ok (.aload_n 0, 1) := by decide +kernel
theorem dX5_wrong_108 : decode cX5_wrong 108 = .ok (.getfield 10, 3) := by decide +kernel
theorem dX5_wrong_111 : decode cX5_wrong 111 = .ok (.iload_n 2, 1) := by decide +kernel
theorem dX5_wrong_112 : decode cX5_wrong 112 = .ok (.iload_n 3, 1) := by decide +kernel
theorem dX5_wrong_113 : decode cX5_wrong 113 = .ok (.iload 4, 2) := by decide +kernel
theorem dX5_wrong_115 : decode cX5_wrong 115 = .ok (.iconst 2, 1) := by decide +kernel
theorem dX5_wrong_116 : decode cX5_wrong 116 = .ok (.iload_n 1, 1) := by decide +kernel
theorem dX5_wrong_117 : decode cX5_wrong 117 = .ok (.invokevirtual 68, 3) := by decide +kernel
theorem dX5_wrong_120 : decode cX5_wrong 120 = .ok (.ireturn, 1) := by decide +kernel
theorem dX5_input_0 : decode cX5_input 0 = .ok (.aload_n 0, 1) := by decide +kernel
theorem dX5_input_1 : decode cX5_input 1 = .ok (.getfield 26, 3) := by decide +kernel
theorem dX5_input_4 : decode cX5_input 4 = .ok (.getfield 87, 3) := by decide +kernel
theorem dX5_input_7 : decode cX5_input 7 = .ok (.ifCond .le 6, 3) := by decide +kernel
theorem dX5_input_10 : decode cX5_input 10 = .ok (.bipush (-103), 2) := by decide +kernel
theorem dX5_input_12 : decode cX5_input 12 = .ok (.ireturn, 1) := by decide +kernel
theorem dX5_input_13 : decode cX5_input 13 = .ok (.aload_n 0, 1) := by decide +kernel
theorem dX5_input_14 : decode cX5_input 14 = .ok (.getfield 88, 3) := by decide +kernel
theorem dX5_input_17 : decode cX5_input 17 = .ok (.bipush 8, 2) := by decide +kernel
theorem dX5_input_19 : decode cX5_input 19 = .ok (.if_icmp .lt 6, 3) := by decide +kernel
theorem dX5_input_22 : decode cX5_input 22 = .ok (.bipush (-104), 2) := by decide +kernel
theorem dX5_input_24 : decode cX5_input 24 = .ok (.ireturn, 1) := by decide +kernel
theorem dX5_input_25 : decode cX5_input 25 = .ok (.aload_n 0, 1) := by decide +kernel
theorem dX5_input_26 : decode cX5_input 26 = .ok (.getfield 41, 3) := by decide +kernel
theorem dX5_input_29 : decode cX5_input 29 = .ok (.aload_n 0, 1) := by decide +kernel
theorem dX5_input_30 : decode cX5_input 30 = .ok (.getfield 88, 3) := by decide +kernel
theorem dX5_input_33 : decode cX5_input 33 = .ok (.aaload, 1) := by decide +kernel
theorem dX5_input_34 : decode cX5_input 34 = .ok (.astore 7, 2) := by decide +kernel
theorem dX5_input_36 : decode cX5_input 36 = .ok (.aload 7, 2) := by decide +kernel
theorem dX5_input_38 : decode cX5_input 38 = .ok (.iconst 0, 1) := by decide +kernel
theorem dX5_input_39 : decode cX5_input 39 = .ok (.iload_n 1, 1) := by decide +kernel
theorem dX5_input_40 : decode cX5_input 40 = .ok (.iastore, 1) := by decide +kernel
theorem dX5_input_41 : decode cX5_input 41 = .ok (.aload 7, 2) := by decide +kernel
theorem dX5_input_43 : decode cX5_input 43 = .ok (.iconst 1, 1) := by decide +kernel
theorem dX5_input_44 : decode cX5_input 44 = .ok (.iload_n 2, 1) := by decide +kernel
theorem dX5_input_45 : decode cX5_input 45 = .ok (.iastore, 1) := by decide +kernel
theorem dX5_input_46 : decode cX5_input 46 = .ok (.aload 7, 2) := by decide +kernel
theorem dX5_input_48 : decode cX5_input 48 = .ok (.iconst 2, 1) := by decide +kernel
theorem dX5_input_49 : decode cX5_input 49 = .ok (.iload_n 3, 1) := by decide +kernel
theorem dX5_input_50 : decode cX5_input 50 = .ok (.iastore, 1) := by decide +kernel
theorem dX5_input_51 : decode cX5_input 51 = .ok (.aload 7, 2) := by decide +kernel
theorem dX5_input_53 : decode cX5_input 53 = .ok (.iconst 3, 1) := by decide +kernel
theorem dX5_input_54 : decode cX5_input 54 = .ok (.iload 4, 2) := by decide +kernel
theorem dX5_input_56 : decode cX5_input 56 = .ok (.iastore, 1) := by decide +kernel
theorem dX5_input_57 : decode cX5_input 57 = .ok (.aload 7, 2) := by decide +kernel
theorem dX5_input_59 : decode cX5_input 59 = .ok (.iconst 4, 1) := by decide +kernel
theorem dX5_input_60 : decode cX5_input 60 = .ok (.iload 5, 2) := by decide +kernel
theorem dX5_input_62 : decode cX5_input 62 = .ok (.iastore, 1) := by decide +kernel
theorem dX5_input_63 : decode cX5_input 63 = .ok (.aload 7, 2) := by decide +kernel
theorem dX5_input_65 : decode cX5_input 65 = .ok (.iconst 5, 1) := by decide +kernel
theorem dX5_input_66 : decode cX5_input 66 = .ok (.iload 6, 2) := by decide +kernel
theorem dX5_input_68 : decode cX5_input 68 = .ok (.iastore, 1) := by decide +kernel
theorem dX5_input_69 : decode cX5_input 69 = .ok (.aload_n 0, 1) := by decide +kernel
theorem dX5_input_70 : decode cX5_input 70 = .ok (.dup, 1) := by decide +kernel
theorem dX5_input_71 : decode cX5_input 71 = .ok (.getfield 88, 3) := by decide +kernel
theorem dX5_input_74 : decode cX5_input 74 = .ok (.dup_x1, 1) := by decide +kernel
theorem dX5_input_75 : decode cX5_input 75 = .ok (.iconst 1, 1) := by decide +kernel
theorem dX5_input_76 : decode cX5_input 76 = .ok (.iadd, 1) := by decide +kernel
theorem dX5_input_77 : decode cX5_input 77 = .ok (.putfield 88, 3) := by decide +kernel
theorem dX5_input_80 : decode cX5_input 80 = .ok (.ireturn, 1) := by decide +kernel
set_option maxRecDepth 20000 in
theorem ggX5_wipe_X1_forget : GoodIn wsX5_wipe wsX1_forget := goodIn_r _ [10, 11, 42, 43, 44, 45, 46, 47] (by decide +kernel) (by decide +kernel)
set_option maxRecDepth 20000 in
theorem gX5_wipe_X1_forget : GoodIn wsX5_wipe (wsV RX5 91 RX1 yX1_forget wsX1_forget) := goodIn_app (goodIn_of _ (by decide +kernel)) ggX5_wipe_X1_forget
set_option maxRecDepth 20000 in
theorem ggX5_wipe_X4_forget : GoodIn wsX5_wipe wsX4_forget := goodIn_r _ [16, 17, 18, 19, 20, 21, 22, 23, 50, 51, 52, 53, 54, 55] (by decide +kernel) (by decide +kernel)
set_option maxRecDepth 20000 in
theorem gX5_wipe_X4_forget : GoodIn wsX5_wipe (wsV RX5 94 RX4 yX4_forget wsX4_forget) := goodIn_app (goodIn_of _ (by decide +kernel)) ggX5_wipe_X4_forget
set_option maxRecDepth 20000 in
theorem ggX5_wipe_X2_forget : GoodIn wsX5_wipe wsX2_forget := goodIn_r _ [28, 29, 30, 31, 21, 22, 23, 56, 57, 58] (by decide +kernel) (by decide +kernel)
set_option maxRecDepth 20000 in
theorem gX5_wipe_X2_forget : GoodIn wsX5_wipe (wsV RX5 95 RX2 yX2_forget wsX2_forget) := goodIn_app (goodIn_of _ (by decide +kernel)) ggX5_wipe_X2_forget
theorem dX5_wipe_0 : decode cX5_wipe 0 = .ok (.aload_n 0, 1) := by decide +kernel
theorem dX5_wipe_1 : decode cX5_wipe 1 = .ok (.getfield 10, 3) := by decide +kernel
theorem dX5_wipe_4 : decode cX5_wipe 4 = .ok (.getfield 57, 3) := by decide +kernel
theorem dX5_wipe_7 : decode cX5_wipe 7 = .ok (.istore_n 1, 1) := by decide +kernel
theorem dX5_wipe_8 : decode cX5_wipe 8 = .ok (.aload_n 0, 1) := by decide +kernel
theorem dX5_wipe_9 : decode cX5_wipe 9 = .ok (.getfield 10, 3) := by decide +kernel
theorem dX5_wipe_12 : decode cX5_wipe 12 = .ok (.invokevirtual 91, 3) := by decide +kernel
theorem dX5_wipe_15 : decode cX5_wipe 15 = .ok (.aload_n 0, 1) := by decide +kernel
theorem dX5_wipe_16 : decode cX5_wipe 16 = .ok (.getfield 19, 3) := by decide +kernel
theorem dX5_wipe_19 : decode cX5_wipe 19 = .ok (.invokevirtual 94, 3) := by decide +kernel
theorem dX5_wipe_22 : decode cX5_wipe 22 = .ok (.aload_n 0, 1) := by decide +kernel
theorem dX5_wipe_23 : decode cX5_wipe 23 = .ok (.getfield 26, 3) := by decide +kernel
theorem dX5_wipe_26 : decode cX5_wipe 26 = .ok (.iconst 0, 1) := by decide +kernel
theorem dX5_wipe_27 : decode cX5_wipe 27 = .ok (.putfield 87, 3) := by decide +kernel
theorem dX5_wipe_30 : decode cX5_wipe 30 = .ok (.aload_n 0, 1) := by decide +kernel
theorem dX5_wipe_31 : decode cX5_wipe 31 = .ok (.iconst 0, 1) := by decide +kernel
theorem dX5_wipe_32 : decode cX5_wipe 32 = .ok (.putfield 88, 3) := by decide +kernel
theorem dX5_wipe_35 : decode cX5_wipe 35 = .ok (.aload_n 0, 1) := by decide +kernel
theorem dX5_wipe_36 : decode cX5_wipe 36 = .ok (.getfield 47, 3) := by decide +kernel
theorem dX5_wipe_39 : decode cX5_wipe 39 = .ok (.invokevirtual 95, 3) := by decide +kernel
theorem dX5_wipe_42 : decode cX5_wipe 42 = .ok (.iload_n 1, 1) := by decide +kernel
theorem dX5_wipe_43 : decode cX5_wipe 43 = .ok (.ireturn, 1) := by decide +kernel
set_option maxRecDepth 20000 in
theorem ggX5_told_X1_has : GoodIn wsX5_told wsX1_has := goodIn_r _ [6, 7, 28, 29, 30, 31, 32, 33] (by decide +kernel) (by decide +kernel)
set_option maxRecDepth 20000 in
theorem gX5_told_X1_has : GoodIn wsX5_told (wsV RX5 76 RX1 yX1_has wsX1_has) := goodIn_app (goodIn_of _ (by decide +kernel)) ggX5_told_X1_has
set_option maxRecDepth 20000 in
theorem ggX5_told_X1_tell : GoodIn wsX5_told wsX1_tell := goodIn_r _ [11, 12, 13, 14, 15, 16, 17, 3, 4, 5, 6, 7, 28, 29, 30, 31, 32, 33] (by decide +kernel) (by decide +kernel)
set_option maxRecDepth 20000 in
theorem gX5_told_X1_tell : GoodIn wsX5_told (wsV RX5 96 RX1 yX1_tell wsX1_tell) := goodIn_app (goodIn_of _ (by decide +kernel)) ggX5_told_X1_tell
theorem dX5_told_0 : decode cX5_told 0 = .ok (.aload_n 0, 1) := by decide +kernel
theorem dX5_told_1 : decode cX5_told 1 = .ok (.getfield 10, 3) := by decide +kernel
theorem dX5_told_4 : decode cX5_told 4 = .ok (.iload_n 1, 1) := by decide +kernel
theorem dX5_told_5 : decode cX5_told 5 = .ok (.invokevirtual 76, 3) := by decide +kernel
theorem dX5_told_8 : decode cX5_told 8 = .ok (.ifCond .ne 6, 3) := by decide +kernel
theorem dX5_told_11 : decode cX5_told 11 = .ok (.bipush (-101), 2) := by decide +kernel
theorem dX5_told_13 : decode cX5_told 13 = .ok (.ireturn, 1) := by decide +kernel
theorem dX5_told_14 : decode cX5_told 14 = .ok (.iload_n 2, 1) := by decide +kernel
theorem dX5_told_15 : decode cX5_told 15 = .ok (.ifCond .lt 20, 3) := by decide +kernel
theorem dX5_told_18 : decode cX5_told 18 = .ok (.iload_n 2, 1) := by decide +kernel
theorem dX5_told_19 : decode cX5_told 19 = .ok (.iconst 5, 1) := by decide +kernel
theorem dX5_told_20 : decode cX5_told 20 = .ok (.if_icmp .ge 15, 3) := by decide +kernel
theorem dX5_told_23 : decode cX5_told 23 = .ok (.aload_n 0, 1) := by decide +kernel
theorem dX5_told_24 : decode cX5_told 24 = .ok (.getfield 10, 3) := by decide +kernel
theorem dX5_told_27 : decode cX5_told 27 = .ok (.iload_n 1, 1) := by decide +kernel
theorem dX5_told_28 : decode cX5_told 28 = .ok (.iload_n 2, 1) := by decide +kernel
theorem dX5_told_29 : decode cX5_told 29 = .ok (.invokevirtual 96, 3) := by decide +kernel
theorem dX5_told_32 : decode cX5_told 32 = .ok (.goto 5, 3) := by decide +kernel
theorem dX5_told_35 : decode cX5_told 35 = .ok (.bipush (-102), 2) := by decide +kernel
theorem dX5_told_37 : decode cX5_told 37 = .ok (.ireturn, 1) := by decide +kernel
set_option maxRecDepth 20000 in
theorem ggX5_needs_X1_has : GoodIn wsX5_needs wsX1_has := goodIn_r _ [7, 8, 31, 32, 33, 34, 35, 36] (by decide +kernel) (by decide +kernel)
set_option maxRecDepth 20000 in
theorem gX5_needs_X1_has : GoodIn wsX5_needs (wsV RX5 76 RX1 yX1_has wsX1_has) := goodIn_app (goodIn_of _ (by decide +kernel)) ggX5_needs_X1_has
set_option maxRecDepth 20000 in
theorem ggX5_needs_X4_rankOf : GoodIn wsX5_needs wsX4_rankOf := goodIn_r _ [13, 14, 37, 38, 39, 40, 41, 42] (by decide +kernel) (by decide +kernel)
set_option maxRecDepth 20000 in
theorem gX5_needs_X4_rankOf : GoodIn wsX5_needs (wsV RX5 100 RX4 yX4_rankOf wsX4_rankOf) := goodIn_app (goodIn_of _ (by decide +kernel)) ggX5_needs_X4_rankOf
set_option maxRecDepth 20000 in
theorem ggX5_needs_X4_isAhead : GoodIn wsX5_needs wsX4_isAhead := goodIn_r _ [18, 19, 20, 37, 38, 39, 40, 41, 42] (by decide +kernel) (by decide +kernel)
set_option maxRecDepth 20000 in
theorem gX5_needs_X4_isAhead : GoodIn wsX5_needs (wsV RX5 103 RX4 yX4_isAhead wsX4_isAhead) := goodIn_app (goodIn_of _ (by decide +kernel)) ggX5_needs_X4_isAhead
theorem dX5_needs_0 : decode cX5_needs 0 = .ok (.aload_n 0, 1) := by decide +kernel
theorem dX5_needs_1 : decode cX5_needs 1 = .ok (.getfield 10, 3) := by decide +kernel
theorem dX5_needs_4 : decode cX5_needs 4 = .ok (.iload_n 1, 1) := by decide +kernel
theorem dX5_needs_5 : decode cX5_needs 5 = .ok (.invokevirtual 76, 3) := by decide +kernel
theorem dX5_needs_8 : decode cX5_needs 8 = .ok (.ifCond .eq 14, 3) := by decide +kernel
theorem dX5_needs_11 : decode cX5_needs 11 = .ok (.aload_n 0, 1) := by decide +kernel
theorem dX5_needs_12 : decode cX5_needs 12 = .ok (.getfield 10, 3) := by decide +kernel
theorem dX5_needs_15 : decode cX5_needs 15 = .ok (.iload_n 2, 1) := by decide +kernel
theorem dX5_needs_16 : decode cX5_needs 16 = .ok (.invokevirtual 76, 3) := by decide +kernel
theorem dX5_needs_19 : decode cX5_needs 19 = .ok (.ifCond .ne 6, 3) := by decide +kernel
theorem dX5_needs_22 : decode cX5_needs 22 = .ok (.bipush (-101), 2) := by decide +kernel
theorem dX5_needs_24 : decode cX5_needs 24 = .ok (.ireturn, 1) := by decide +kernel
theorem dX5_needs_25 : decode cX5_needs 25 = .ok (.aload_n 0, 1) := by decide +kernel
theorem dX5_needs_26 : decode cX5_needs 26 = .ok (.getfield 19, 3) := by decide +kernel
theorem dX5_needs_29 : decode cX5_needs 29 = .ok (.aload_n 0, 1) := by decide +kernel
theorem dX5_needs_30 : decode cX5_needs 30 = .ok (.getfield 19, 3) := by decide +kernel
theorem dX5_needs_33 : decode cX5_needs 33 = .ok (.iload_n 1, 1) := by decide +kernel
theorem dX5_needs_34 : decode cX5_needs 34 = .ok (.invokevirtual 100, 3) := by decide +kernel
theorem dX5_needs_37 : decode cX5_needs 37 = .ok (.aload_n 0, 1) := by decide +kernel
theorem dX5_needs_38 : decode cX5_needs 38 = .ok (.getfield 19, 3) := by decide +kernel
theorem dX5_needs_41 : decode cX5_needs 41 = .ok (.iload_n 2, 1) := by decide +kernel
theorem dX5_needs_42 : decode cX5_needs 42 = .ok (.invokevirtual 100, 3) := by decide +kernel
theorem dX5_needs_45 : decode cX5_needs 45 = .ok (.invokevirtual 103, 3) := by decide +kernel
theorem dX5_needs_48 : decode cX5_needs 48 = .ok (.ifCond .eq 7, 3) := by decide +kernel
theorem dX5_needs_51 : decode cX5_needs 51 = .ok (.iconst 1, 1) := by decide +kernel
theorem dX5_needs_52 : decode cX5_needs 52 = .ok (.goto 4, 3) := by decide +kernel
theorem dX5_needs_55 : decode cX5_needs 55 = .ok (.iconst 0, 1) := by decide +kernel
theorem dX5_needs_56 : decode cX5_needs 56 = .ok (.ireturn, 1) := by decide +kernel
set_option maxRecDepth 20000 in
theorem ggX5_orders_X4_manyOrders : GoodIn wsX5_orders wsX4_manyOrders := goodIn_r _ [6, 7, 8, 9, 10, 5, 11, 12, 13, 14, 15, 16, 17, 18, 19, 20, 21, 22, 33, 34, 35, 36, 37, 38] (by decide +kernel) (by decide +kernel)
set_option maxRecDepth 20000 in
theorem gX5_orders_X4_manyOrders : GoodIn wsX5_orders (wsV RX5 107 RX4 yX4_manyOrders wsX4_manyOrders) := goodIn_app (goodIn_of _ (by decide +kernel)) ggX5_orders_X4_manyOrders
theorem dX5_orders_0 : decode cX5_orders 0 = .ok (.aload_n 0, 1) := by decide +kernel
theorem dX5_orders_1 : decode cX5_orders 1 = .ok (.getfield 19, 3) := by decide +kernel
theorem dX5_orders_4 : decode cX5_orders 4 = .ok (.invokevirtual 107, 3) := by decide +kernel
theorem dX5_orders_7 : decode cX5_orders 7 = .ok (.lreturn, 1) := by decide +kernel
set_option maxRecDepth 20000 in
theorem ggX5_right_X4_lineOfOrder : GoodIn wsX5_right wsX4_lineOfOrder := goodIn_r _ [6, 7, 8, 9, 10, 5, 11, 12, 13, 14, 15, 16, 17, 18, 19, 20, 21, 22, 23, 24, 25, 26, 27, 28, 29, 30, 31, 32, 33, 34, 35, 46, 47, 48, 49, 50, 51] (by decide +kernel) (by decide +kernel)
set_option maxRecDepth 20000 in
theorem gX5_right_X4_lineOfOrder : GoodIn wsX5_right (wsV RX5 111 RX4 yX4_lineOfOrder wsX4_lineOfOrder) := goodIn_app (goodIn_of _ (by decide +kernel)) ggX5_right_X4_lineOfOrder
theorem dX5_right_0 : decode cX5_right 0 = .ok (.aload_n 0, 1) := by decide +kernel
theorem dX5_right_1 : decode cX5_right 1 = .ok (.getfield 19, 3) := by decide +kernel
theorem dX5_right_4 : decode cX5_right 4 = .ok (.lload_n 1, 1) := by decide +kernel
theorem dX5_right_5 : decode cX5_right 5 = .ok (.iload_n 3, 1) := by decide +kernel
theorem dX5_right_6 : decode cX5_right 6 = .ok (.invokevirtual 111, 3) := by decide +kernel
theorem dX5_right_9 : decode cX5_right 9 = .ok (.ireturn, 1) := by decide +kernel
set_option maxRecDepth 20000 in
theorem ggX5_which_X4_orderOf : GoodIn wsX5_which wsX4_orderOf := goodIn_r _ [7, 8, 9, 10, 11, 12, 6, 13, 14, 15, 16, 17, 18, 19, 20, 21, 22, 23, 24, 25, 26, 27, 28, 29, 30, 31, 32, 33, 34, 35, 36, 37, 38, 39, 40, 51, 52, 53, 54, 55, 56, 57, 58] (by decide +kernel) (by decide +kernel)
set_option maxRecDepth 20000 in
theorem gX5_which_X4_orderOf : GoodIn wsX5_which (wsV RX5 115 RX4 yX4_orderOf wsX4_orderOf) := goodIn_app (goodIn_of _ (by decide +kernel)) ggX5_which_X4_orderOf
theorem dX5_which_0 : decode cX5_which 0 = .ok (.aload_n 0, 1) := by decide +kernel
theorem dX5_which_1 : decode cX5_which 1 = .ok (.getfield 19, 3) := by decide +kernel
theorem dX5_which_4 : decode cX5_which 4 = .ok (.aload_n 0, 1) := by decide +kernel
theorem dX5_which_5 : decode cX5_which 5 = .ok (.getfield 26, 3) := by decide +kernel
theorem dX5_which_8 : decode cX5_which 8 = .ok (.invokevirtual 115, 3) := by decide +kernel
theorem dX5_which_11 : decode cX5_which 11 = .ok (.lreturn, 1) := by decide +kernel
set_option maxRecDepth 20000 in
theorem ggX5_lay_X1_has : GoodIn wsX5_lay wsX1_has := goodIn_r _ [7, 8, 36, 37, 38, 39, 40, 41] (by decide +kernel) (by decide +kernel)
set_option maxRecDepth 20000 in
theorem gX5_lay_X1_has : GoodIn wsX5_lay (wsV RX5 76 RX1 yX1_has wsX1_has) := goodIn_app (goodIn_of _ (by decide +kernel)) ggX5_lay_X1_has
set_option maxRecDepth 20000 in
theorem ggX5_lay_X0_holds : GoodIn wsX5_lay wsX0_holds := goodIn_r _ [13, 14, 15, 16, 12, 17, 18, 19, 34, 35] (by decide +kernel) (by decide +kernel)
set_option maxRecDepth 20000 in
theorem gX5_lay_X0_holds : GoodIn wsX5_lay (wsV RX5 119 RX0 yX0_holds wsX0_holds) := goodIn_app (goodIn_of _ (by decide +kernel)) ggX5_lay_X0_holds
set_option maxRecDepth 20000 in
theorem ggX5_lay_X0_insert : GoodIn wsX5_lay wsX0_insert := goodIn_r _ [23, 18, 19, 34, 35] (by decide +kernel) (by decide +kernel)
set_option maxRecDepth 20000 in
theorem gX5_lay_X0_insert : GoodIn wsX5_lay (wsV RX5 122 RX0 yX0_insert wsX0_insert) := goodIn_app (goodIn_of _ (by decide +kernel)) ggX5_lay_X0_insert
theorem dX5_lay_0 : decode cX5_lay 0 = .ok (.aload_n 0, 1) := by decide +kernel
theorem dX5_lay_1 : decode cX5_lay 1 = .ok (.getfield 10, 3) := by decide +kernel
theorem dX5_lay_4 : decode cX5_lay 4 = .ok (.iload_n 1, 1) := by decide +kernel
theorem dX5_lay_5 : decode cX5_lay 5 = .ok (.invokevirtual 76, 3) := by decide +kernel
theorem dX5_lay_8 : decode cX5_lay 8 = .ok (.ifCond .ne 6, 3) := by decide +kernel
theorem dX5_lay_11 : decode cX5_lay 11 = .ok (.bipush (-101), 2) := by decide +kernel
theorem dX5_lay_13 : decode cX5_lay 13 = .ok (.ireturn, 1) := by decide +kernel
theorem dX5_lay_14 : decode cX5_lay 14 = .ok (.iload_n 2, 1) := by decide +kernel
theorem dX5_lay_15 : decode cX5_lay 15 = .ok (.ifCond .lt 14, 3) := by decide +kernel
theorem dX5_lay_18 : decode cX5_lay 18 = .ok (.iload_n 2, 1) := by decide +kernel
theorem dX5_lay_19 : decode cX5_lay 19 = .ok (.aload_n 0, 1) := by decide +kernel
theorem dX5_lay_20 : decode cX5_lay 20 = .ok (.getfield 26, 3) := by decide +kernel
theorem dX5_lay_23 : decode cX5_lay 23 = .ok (.getfield 87, 3) := by decide +kernel
theorem dX5_lay_26 : decode cX5_lay 26 = .ok (.if_icmp .le 6, 3) := by decide +kernel
theorem dX5_lay_29 : decode cX5_lay 29 = .ok (.bipush (-102), 2) := by decide +kernel
theorem dX5_lay_31 : decode cX5_lay 31 = .ok (.ireturn, 1) := by decide +kernel
theorem dX5_lay_32 : decode cX5_lay 32 = .ok (.aload_n 0, 1) := by decide +kernel
theorem dX5_lay_33 : decode cX5_lay 33 = .ok (.getfield 26, 3) := by decide +kernel
theorem dX5_lay_36 : decode cX5_lay 36 = .ok (.iload_n 1, 1) := by decide +kernel
theorem dX5_lay_37 : decode cX5_lay 37 = .ok (.invokevirtual 119, 3) := by decide +kernel
theorem dX5_lay_40 : decode cX5_lay 40 = .ok (.ifCond .eq 6, 3) := by decide +kernel
theorem dX5_lay_43 : decode cX5_lay 43 = .ok (.bipush (-103), 2) := by decide +kernel
theorem dX5_lay_45 : decode cX5_lay 45 = .ok (.ireturn, 1) := by decide +kernel
theorem dX5_lay_46 : decode cX5_lay 46 = .ok (.aload_n 0, 1) := by decide +kernel
theorem dX5_lay_47 : decode cX5_lay 47 = .ok (.getfield 26, 3) := by decide +kernel
theorem dX5_lay_50 : decode cX5_lay 50 = .ok (.iload_n 1, 1) := by decide +kernel
theorem dX5_lay_51 : decode cX5_lay 51 = .ok (.iload_n 2, 1) := by decide +kernel
theorem dX5_lay_52 : decode cX5_lay 52 = .ok (.invokevirtual 122, 3) := by decide +kernel
theorem dX5_lay_55 : decode cX5_lay 55 = .ok (.aload_n 0, 1) := by decide +kernel
theorem dX5_lay_56 : decode cX5_lay 56 = .ok (.getfield 26, 3) := by decide +kernel
theorem dX5_lay_59 : decode cX5_lay 59 = .ok (.getfield 87, 3) := by decide +kernel
theorem dX5_lay_62 : decode cX5_lay 62 = .ok (.ireturn, 1) := by decide +kernel
set_option maxRecDepth 20000 in
theorem ggX5_take_X0_hasPlace : GoodIn wsX5_take wsX0_hasPlace := goodIn_r _ [6, 7, 24, 25] (by decide +kernel) (by decide +kernel)
set_option maxRecDepth 20000 in
theorem gX5_take_X0_hasPlace : GoodIn wsX5_take (wsV RX5 126 RX0 yX0_hasPlace wsX0_hasPlace) := goodIn_app (goodIn_of _ (by decide +kernel)) ggX5_take_X0_hasPlace
set_option maxRecDepth 20000 in
theorem ggX5_take_X0_remove : GoodIn wsX5_take wsX0_remove := goodIn_r _ [11, 12, 7, 13, 3, 4, 5, 6, 24, 25] (by decide +kernel) (by decide +kernel)
set_option maxRecDepth 20000 in
theorem gX5_take_X0_remove : GoodIn wsX5_take (wsV RX5 129 RX0 yX0_remove wsX0_remove) := goodIn_app (goodIn_of _ (by decide +kernel)) ggX5_take_X0_remove
theorem dX5_take_0 : decode cX5_take 0 = .ok (.aload_n 0, 1) := by decide +kernel
theorem dX5_take_1 : decode cX5_take 1 = .ok (.getfield 26, 3) := by decide +kernel
theorem dX5_take_4 : decode cX5_take 4 = .ok (.iload_n 1, 1) := by decide +kernel
theorem dX5_take_5 : decode cX5_take 5 = .ok (.invokevirtual 126, 3) := by decide +kernel
theorem dX5_take_8 : decode cX5_take 8 = .ok (.ifCond .eq 14, 3) := by decide +kernel
theorem dX5_take_11 : decode cX5_take 11 = .ok (.aload_n 0, 1) := by decide +kernel
theorem dX5_take_12 : decode cX5_take 12 = .ok (.getfield 26, 3) := by decide +kernel
theorem dX5_take_15 : decode cX5_take 15 = .ok (.iload_n 1, 1) := by decide +kernel
theorem dX5_take_16 : decode cX5_take 16 = .ok (.invokevirtual 129, 3) := by decide +kernel
theorem dX5_take_19 : decode cX5_take 19 = .ok (.goto 5, 3) := by decide +kernel
theorem dX5_take_22 : decode cX5_take 22 = .ok (.bipush (-102), 2) := by decide +kernel
theorem dX5_take_24 : decode cX5_take 24 = .ok (.ireturn, 1) := by decide +kernel
set_option maxRecDepth 20000 in
theorem ggX5_move_X0_hasPlace : GoodIn wsX5_move wsX0_hasPlace := goodIn_r _ [6, 7, 28, 29] (by decide +kernel) (by decide +kernel)
set_option maxRecDepth 20000 in
theorem gX5_move_X0_hasPlace : GoodIn wsX5_move (wsV RX5 126 RX0 yX0_hasPlace wsX0_hasPlace) := goodIn_app (goodIn_of _ (by decide +kernel)) ggX5_move_X0_hasPlace
set_option maxRecDepth 20000 in
theorem ggX5_move_X0_remove : GoodIn wsX5_move wsX0_remove := goodIn_r _ [11, 12, 7, 13, 3, 4, 5, 6, 28, 29] (by decide +kernel) (by decide +kernel)
set_option maxRecDepth 20000 in
theorem gX5_move_X0_remove : GoodIn wsX5_move (wsV RX5 129 RX0 yX0_remove wsX0_remove) := goodIn_app (goodIn_of _ (by decide +kernel)) ggX5_move_X0_remove
set_option maxRecDepth 20000 in
theorem ggX5_move_X0_insert : GoodIn wsX5_move wsX0_insert := goodIn_r _ [17, 7, 12, 28, 29] (by decide +kernel) (by decide +kernel)
set_option maxRecDepth 20000 in
theorem gX5_move_X0_insert : GoodIn wsX5_move (wsV RX5 122 RX0 yX0_insert wsX0_insert) := goodIn_app (goodIn_of _ (by decide +kernel)) ggX5_move_X0_insert
theorem dX5_move_0 : decode cX5_move 0 = .ok (.aload_n 0, 1) := by decide +kernel
theorem dX5_move_1 : decode cX5_move 1 = .ok (.getfield 26, 3) := by decide +kernel
theorem dX5_move_4 : decode cX5_move 4 = .ok (.iload_n 1, 1) := by decide +kernel
theorem dX5_move_5 : decode cX5_move 5 = .ok (.invokevirtual 126, 3) := by decide +kernel
theorem dX5_move_8 : decode cX5_move 8 = .ok (.ifCond .eq 14, 3) := by decide +kernel
theorem dX5_move_11 : decode cX5_move 11 = .ok (.aload_n 0, 1) := by decide +kernel
theorem dX5_move_12 : decode cX5_move 12 = .ok (.getfield 26, 3) := by decide +kernel
theorem dX5_move_15 : decode cX5_move 15 = .ok (.iload_n 2, 1) := by decide +kernel
theorem dX5_move_16 : decode cX5_move 16 = .ok (.invokevirtual 126, 3) := by decide +kernel
theorem dX5_move_19 : decode cX5_move 19 = .ok (.ifCond .ne 6, 3) := by decide +kernel
theorem dX5_move_22 : decode cX5_move 22 = .ok (.bipush (-102), 2) := by decide +kernel
theorem dX5_move_24 : decode cX5_move 24 = .ok (.ireturn, 1) := by decide +kernel
theorem dX5_move_25 : decode cX5_move 25 = .ok (.aload_n 0, 1) := by decide +kernel
theorem dX5_move_26 : decode cX5_move 26 = .ok (.getfield 26, 3) := by decide +kernel
theorem dX5_move_29 : decode cX5_move 29 = .ok (.iload_n 1, 1) := by decide +kernel
theorem dX5_move_30 : decode cX5_move 30 = .ok (.invokevirtual 129, 3) := by decide +kernel
theorem dX5_move_33 : decode cX5_move 33 = .ok (.istore_n 3, 1) := by decide +kernel
theorem dX5_move_34 : decode cX5_move 34 = .ok (.aload_n 0, 1) := by decide +kernel
theorem dX5_move_35 : decode cX5_move 35 = .ok (.getfield 26, 3) := by decide +kernel
theorem dX5_move_38 : decode cX5_move 38 = .ok (.iload_n 3, 1) := by decide +kernel
theorem dX5_move_39 : decode cX5_move 39 = .ok (.iload_n 2, 1) := by decide +kernel
theorem dX5_move_40 : decode cX5_move 40 = .ok (.invokevirtual 122, 3) := by decide +kernel
theorem dX5_move_43 : decode cX5_move 43 = .ok (.iload_n 3, 1) := by decide +kernel
theorem dX5_move_44 : decode cX5_move 44 = .ok (.ireturn, 1) := by decide +kernel
theorem dX5_clear_0 : decode cX5_clear 0 = .ok (.aload_n 0, 1) := by decide +kernel
theorem dX5_clear_1 : decode cX5_clear 1 = .ok (.getfield 26, 3) := by decide +kernel
theorem dX5_clear_4 : decode cX5_clear 4 = .ok (.getfield 87, 3) := by decide +kernel
theorem dX5_clear_7 : decode cX5_clear 7 = .ok (.istore_n 1, 1) := by decide +kernel
theorem dX5_clear_8 : decode cX5_clear 8 = .ok (.aload_n 0, 1) := by decide +kernel
theorem dX5_clear_9 : decode cX5_clear 9 = .ok (.getfield 26, 3) := by decide +kernel
theorem dX5_clear_12 : decode cX5_clear 12 = .ok (.iconst 0, 1) := by decide +kernel
theorem dX5_clear_13 : decode cX5_clear 13 = .ok (.putfield 87, 3) := by decide +kernel
theorem dX5_clear_16 : decode cX5_clear 16 = .ok (.iload_n 1, 1) := by decide +kernel
theorem dX5_clear_17 : decode cX5_clear 17 = .ok (.ireturn, 1) := by decide +kernel
set_option maxRecDepth 20000 in
theorem ggX5_at_X0_lineAt : GoodIn wsX5_at wsX0_lineAt := goodIn_r _ [6, 7, 8, 9, 10, 5, 11, 12, 23, 24] (by decide +kernel) (by decide +kernel)
set_option maxRecDepth 20000 in
theorem gX5_at_X0_lineAt : GoodIn wsX5_at (wsV RX5 132 RX0 yX0_lineAt wsX0_lineAt) := goodIn_app (goodIn_of _ (by decide +kernel)) ggX5_at_X0_lineAt
theorem dX5_at_0 : decode cX5_at 0 = .ok (.aload_n 0, 1) := by decide +kernel
theorem dX5_at_1 : decode cX5_at 1 = .ok (.getfield 26, 3) := by decide +kernel
theorem dX5_at_4 : decode cX5_at 4 = .ok (.iload_n 1, 1) := by decide +kernel
theorem dX5_at_5 : decode cX5_at 5 = .ok (.invokevirtual 132, 3) := by decide +kernel
theorem dX5_at_8 : decode cX5_at 8 = .ok (.ireturn, 1) := by decide +kernel
theorem dX5_size_0 : decode cX5_size 0 = .ok (.aload_n 0, 1) := by decide +kernel
theorem dX5_size_1 : decode cX5_size 1 = .ok (.getfield 26, 3) := by decide +kernel
theorem dX5_size_4 : decode cX5_size 4 = .ok (.getfield 87, 3) := by decide +kernel
theorem dX5_size_7 : decode cX5_size 7 = .ok (.ireturn, 1) := by decide +kernel
set_option maxRecDepth 20000 in
theorem ggX5_run_X5_perform : GoodIn wsX5_run wsX5_perform := goodIn_r _ [7, 8, 9, 10, 11, 12, 13, 14, 15, 16, 17, 18, 19, 20, 21, 22, 23, 24, 25, 26, 27, 28, 29, 30, 31, 32, 33, 34, 35, 36, 37, 38, 39, 40, 41, 42, 43, 44, 45, 46, 47, 48, 49, 50, 51, 52, 53, 54, 55, 56, 57, 58, 59, 60, 61, 62, 63, 64, 65, 66, 67, 68, 69, 70, 71, 72, 73, 74, 75, 76, 77, 78, 79, 80, 81, 82, 83, 84, 85, 86, 87, 88, 89, 93, 94, 95, 96, 97, 98, 99, 100, 90, 91, 92, 101, 102, 103, 104, 105, 106] (by decide +kernel) (by decide +kernel)
set_option maxRecDepth 20000 in
theorem gX5_run_X5_perform : GoodIn wsX5_run (wsV RX5 135 RX5 yX5_perform wsX5_perform) := goodIn_app (goodIn_of _ (by decide +kernel)) ggX5_run_X5_perform
theorem dX5_run_0 : decode cX5_run 0 = .ok (.iload_n 1, 1) := by decide +kernel
theorem dX5_run_1 : decode cX5_run 1 = .ok (.ifCond .lt 11, 3) := by decide +kernel
theorem dX5_run_4 : decode cX5_run 4 = .ok (.iload_n 1, 1) := by decide +kernel
theorem dX5_run_5 : decode cX5_run 5 = .ok (.aload_n 0, 1) := by decide +kernel
theorem dX5_run_6 : decode cX5_run 6 = .ok (.getfield 88, 3) := by decide +kernel
theorem dX5_run_9 : decode cX5_run 9 = .ok (.if_icmp .lt 6, 3) := by decide +kernel
theorem dX5_run_12 : decode cX5_run 12 = .ok (.bipush (-101), 2) := by decide +kernel
theorem dX5_run_14 : decode cX5_run 14 = .ok (.ireturn, 1) := by decide +kernel
theorem dX5_run_15 : decode cX5_run 15 = .ok (.aload_n 0, 1) := by decide +kernel
theorem dX5_run_16 : decode cX5_run 16 = .ok (.aload_n 0, 1) := by decide +kernel
theorem dX5_run_17 : decode cX5_run 17 = .ok (.getfield 47, 3) := by decide +kernel
theorem dX5_run_20 : decode cX5_run 20 = .ok (.iload_n 1, 1) := by decide +kernel
theorem dX5_run_21 : decode cX5_run 21 = .ok (.iload_n 2, 1) := by decide +kernel
theorem dX5_run_22 : decode cX5_run 22 = .ok (.invokevirtual 135, 3) := by decide +kernel
theorem dX5_run_25 : decode cX5_run 25 = .ok (.aload_n 0, 1) := by decide +kernel
theorem dX5_run_26 : decode cX5_run 26 = .ok (.getfield 47, 3) := by decide +kernel
theorem dX5_run_29 : decode cX5_run 29 = .ok (.getfield 139, 3) := by decide +kernel
theorem dX5_run_32 : decode cX5_run 32 = .ok (.ireturn, 1) := by decide +kernel
set_option maxRecDepth 20000 in
theorem ggX5_printed_X2_printAt : GoodIn wsX5_printed wsX2_printAt := goodIn_r _ [6, 7, 8, 19, 20, 21] (by decide +kernel) (by decide +kernel)
set_option maxRecDepth 20000 in
theorem gX5_printed_X2_printAt : GoodIn wsX5_printed (wsV RX5 142 RX2 yX2_printAt wsX2_printAt) := goodIn_app (goodIn_of _ (by decide +kernel)) ggX5_printed_X2_printAt
theorem dX5_printed_0 : decode cX5_printed 0 = .ok (.aload_n 0, 1) := by decide +kernel
theorem dX5_printed_1 : decode cX5_printed 1 = .ok (.getfield 47, 3) := by decide +kernel
theorem dX5_printed_4 : decode cX5_printed 4 = .ok (.iload_n 1, 1) := by decide +kernel
theorem dX5_printed_5 : decode cX5_printed 5 = .ok (.invokevirtual 142, 3) := by decide +kernel
theorem dX5_printed_8 : decode cX5_printed 8 = .ok (.ireturn, 1) := by decide +kernel
set_option maxRecDepth 20000 in
theorem ggX5_value_X2_valueOf : GoodIn wsX5_value wsX2_valueOf := goodIn_r _ [6, 7, 8, 9, 10, 11, 22, 23, 24] (by decide +kernel) (by decide +kernel)
set_option maxRecDepth 20000 in
theorem gX5_value_X2_valueOf : GoodIn wsX5_value (wsV RX5 145 RX2 yX2_valueOf wsX2_valueOf) := goodIn_app (goodIn_of _ (by decide +kernel)) ggX5_value_X2_valueOf
theorem dX5_value_0 : decode cX5_value 0 = .ok (.aload_n 0, 1) := by decide +kernel
theorem dX5_value_1 : decode cX5_value 1 = .ok (.getfield 47, 3) := by decide +kernel
theorem dX5_value_4 : decode cX5_value 4 = .ok (.iload_n 1, 1) := by decide +kernel
theorem dX5_value_5 : decode cX5_value 5 = .ok (.invokevirtual 145, 3) := by decide +kernel
theorem dX5_value_8 : decode cX5_value 8 = .ok (.ireturn, 1) := by decide +kernel
set_option maxRecDepth 20000 in
theorem ggX5_alike_X5_perform : GoodIn wsX5_alike wsX5_perform := goodIn_r _ [8, 9, 10, 11, 12, 13, 14, 15, 16, 17, 18, 19, 20, 21, 22, 23, 24, 25, 26, 27, 28, 29, 30, 31, 32, 33, 34, 35, 36, 37, 38, 39, 40, 41, 42, 43, 44, 45, 46, 47, 48, 49, 50, 51, 52, 53, 54, 55, 56, 57, 58, 59, 60, 61, 62, 63, 64, 65, 66, 67, 68, 69, 70, 71, 72, 73, 74, 75, 76, 77, 78, 79, 80, 85, 86, 87, 88, 89, 90, 91, 92, 93, 94, 95, 96, 97, 98, 99, 100, 101, 102, 103, 104, 105, 106, 107, 108, 109, 110, 111] (by decide +kernel) (by decide +kernel)
set_option maxRecDepth 20000 in
theorem gX5_alike_X5_perform : GoodIn wsX5_alike (wsV RX5 135 RX5 yX5_perform wsX5_perform) := goodIn_app (goodIn_of _ (by decide +kernel)) ggX5_alike_X5_perform
set_option maxRecDepth 20000 in
theorem ggX5_alike_X2_printsAs : GoodIn wsX5_alike wsX2_printsAs := goodIn_r _ [84, 23, 80, 103, 104, 105] (by decide +kernel) (by decide +kernel)
set_option maxRecDepth 20000 in
theorem gX5_alike_X2_printsAs : GoodIn wsX5_alike (wsV RX5 148 RX2 yX2_printsAs wsX2_printsAs) := goodIn_app (goodIn_of _ (by decide +kernel)) ggX5_alike_X2_printsAs
theorem dX5_alike_0 : decode cX5_alike 0 = .ok (.iconst 0, 1) := by decide +kernel
theorem dX5_alike_1 : decode cX5_alike 1 = .ok (.istore_n 1, 1) := by decide +kernel
theorem dX5_alike_2 : decode cX5_alike 2 = .ok (.iload_n 1, 1) := by decide +kernel
theorem dX5_alike_3 : decode cX5_alike 3 = .ok (.aload_n 0, 1) := by decide +kernel
theorem dX5_alike_4 : decode cX5_alike 4 = .ok (.getfield 88, 3) := by decide +kernel
theorem dX5_alike_7 : decode cX5_alike 7 = .ok (.if_icmp .ge 45, 3) := by decide +kernel
theorem dX5_alike_10 : decode cX5_alike 10 = .ok (.aload_n 0, 1) := by decide +kernel
theorem dX5_alike_11 : decode cX5_alike 11 = .ok (.aload_n 0, 1) := by decide +kernel
theorem dX5_alike_12 : decode cX5_alike 12 = .ok (.getfield 51, 3) := by decide +kernel
theorem dX5_alike_15 : decode cX5_alike 15 = .ok (.iload_n 1, 1) := by decide +kernel
theorem dX5_alike_16 : decode cX5_alike 16 = .ok (.iconst 0, 1) := by decide +kernel
theorem dX5_alike_17 : decode cX5_alike 17 = .ok (.invokevirtual 135, 3) := by decide +kernel
theorem dX5_alike_20 : decode cX5_alike 20 = .ok (.aload_n 0, 1) := by decide +kernel
theorem dX5_alike_21 : decode cX5_alike 21 = .ok (.aload_n 0, 1) := by decide +kernel
theorem dX5_alike_22 : decode cX5_alike 22 = .ok (.getfield 54, 3) := by decide +kernel
theorem dX5_alike_25 : decode cX5_alike 25 = .ok (.iload_n 1, 1) := by decide +kernel
theorem dX5_alike_26 : decode cX5_alike 26 = .ok (.iconst 1, 1) := by decide +kernel
theorem dX5_alike_27 : decode cX5_alike 27 = .ok (.invokevirtual 135, 3) := by decide +kernel
theorem dX5_alike_30 : decode cX5_alike 30 = .ok (.aload_n 0, 1) := by decide +kernel
theorem dX5_alike_31 : decode cX5_alike 31 = .ok (.getfield 51, 3) := by decide +kernel
theorem dX5_alike_34 : decode cX5_alike 34 = .ok (.aload_n 0, 1) := by decide +kernel
theorem dX5_alike_35 : decode cX5_alike 35 = .ok (.getfield 54, 3) := by decide +kernel
theorem dX5_alike_38 : decode cX5_alike 38 = .ok (.invokevirtual 148, 3) := by decide +kernel
theorem dX5_alike_41 : decode cX5_alike 41 = .ok (.ifCond .ne 5, 3) := by decide +kernel
theorem dX5_alike_44 : decode cX5_alike 44 = .ok (.iload_n 1, 1) := by decide +kernel
theorem dX5_alike_45 : decode cX5_alike 45 = .ok (.ireturn, 1) := by decide +kernel
theorem dX5_alike_46 : decode cX5_alike 46 = .ok (.iinc 1 1, 3) := by decide +kernel
theorem dX5_alike_49 : decode cX5_alike 49 = .ok (.goto (-47), 3) := by decide +kernel
theorem dX5_alike_52 : decode cX5_alike 52 = .ok (.iconst (-1), 1) := by decide +kernel
theorem dX5_alike_53 : decode cX5_alike 53 = .ok (.ireturn, 1) := by decide +kernel
set_option maxRecDepth 20000 in
theorem ggX5_mark_X3_study : GoodIn wsX5_mark wsX3_study := goodIn_r _ [6, 7, 8, 9, 5, 10, 11, 12, 13, 14, 15, 16, 17, 18, 19, 20, 21, 22, 23, 24, 25, 26, 27, 28, 29, 30, 31, 32, 33, 34, 35, 36, 37, 38, 39, 40, 41, 42, 43, 44, 45, 46, 47, 48, 49, 50, 51, 52, 53, 54, 55, 56, 57, 58, 59, 60, 61, 62, 63, 64, 65, 66, 67, 68, 69, 70, 71, 72, 73, 74, 75, 76, 77, 78, 79, 80, 81, 82, 83, 84, 85, 86, 87, 88, 89, 90, 91, 92, 93, 94, 95, 96, 97, 98, 99, 100, 101, 102, 103, 104, 105, 106, 107, 108, 109, 110, 111, 112, 113, 114, 115, 116, 117, 118, 119, 120, 121, 122, 123, 124, 125, 126, 127, 138, 139, 140, 141, 142, 143, 144, 145, 146, 147, 148, 149, 150, 151, 152, 153, 154, 155, 156, 157, 158, 159, 160, 161] (by decide +kernel) (by decide +kernel)
set_option maxRecDepth 20000 in
theorem gX5_mark_X3_study : GoodIn wsX5_mark (wsV RX5 152 RX3 yX3_study wsX3_study) := goodIn_app (goodIn_of _ (by decide +kernel)) ggX5_mark_X3_study
theorem dX5_mark_0 : decode cX5_mark 0 = .ok (.aload_n 0, 1) := by decide +kernel
theorem dX5_mark_1 : decode cX5_mark 1 = .ok (.getfield 35, 3) := by decide +kernel
theorem dX5_mark_4 : decode cX5_mark 4 = .ok (.invokevirtual 152, 3) := by decide +kernel
theorem dX5_mark_7 : decode cX5_mark 7 = .ok (.aload_n 0, 1) := by decide +kernel
theorem dX5_mark_8 : decode cX5_mark 8 = .ok (.getfield 35, 3) := by decide +kernel
theorem dX5_mark_11 : decode cX5_mark 11 = .ok (.getfield 155, 3) := by decide +kernel
theorem dX5_mark_14 : decode cX5_mark 14 = .ok (.ireturn, 1) := by decide +kernel
set_option maxRecDepth 20000 in
theorem ggX5_kept_X0_hasPlace : GoodIn wsX5_kept wsX0_hasPlace := goodIn_r _ [7, 8, 141, 142] (by decide +kernel) (by decide +kernel)
set_option maxRecDepth 20000 in
theorem gX5_kept_X0_hasPlace : GoodIn wsX5_kept (wsV RX5 126 RX0 yX0_hasPlace wsX0_hasPlace) := goodIn_app (goodIn_of _ (by decide +kernel)) ggX5_kept_X0_hasPlace
set_option maxRecDepth 20000 in
theorem ggX5_kept_X3_study : GoodIn wsX5_kept wsX3_study := goodIn_r _ [13, 14, 15, 16, 12, 17, 18, 19, 20, 21, 22, 23, 24, 6, 25, 26, 27, 4, 5, 7, 8, 28, 29, 30, 31, 32, 33, 34, 35, 36, 37, 38, 39, 40, 41, 42, 43, 44, 45, 46, 47, 48, 49, 50, 51, 52, 53, 54, 55, 56, 57, 58, 59, 60, 61, 62, 63, 64, 65, 66, 67, 68, 69, 70, 71, 72, 73, 74, 75, 76, 77, 78, 79, 80, 81, 82, 83, 84, 85, 86, 87, 88, 89, 90, 91, 92, 93, 94, 95, 96, 97, 98, 99, 100, 101, 102, 103, 104, 105, 106, 107, 108, 109, 110, 111, 112, 113, 114, 115, 116, 117, 118, 119, 120, 121, 122, 123, 124, 125, 126, 127, 128, 129, 143, 144, 145, 146, 147, 148, 149, 150, 151, 152, 141, 142, 153, 154, 155, 156, 157, 158, 159, 160, 161, 162, 163, 164] (by decide +kernel) (by decide +kernel)
set_option maxRecDepth 20000 in
theorem gX5_kept_X3_study : GoodIn wsX5_kept (wsV RX5 152 RX3 yX3_study wsX3_study) := goodIn_app (goodIn_of _ (by decide +kernel)) ggX5_kept_X3_study
set_option maxRecDepth 20000 in
theorem ggX5_kept_X3_isKept : GoodIn wsX5_kept wsX3_isKept := goodIn_r _ [124, 18, 73, 125, 4, 5, 6, 7, 8, 143, 144, 145, 146, 147, 148, 149, 150, 151, 152, 141, 142] (by decide +kernel) (by decide +kernel)
set_option maxRecDepth 20000 in
theorem gX5_kept_X3_isKept : GoodIn wsX5_kept (wsV RX5 158 RX3 yX3_isKept wsX3_isKept) := goodIn_app (goodIn_of _ (by decide +kernel)) ggX5_kept_X3_isKept
theorem dX5_kept_0 : decode cX5_kept 0 = .ok (.aload_n 0, 1) := by decide +kernel
theorem dX5_kept_1 : decode cX5_kept 1 = .ok (.getfield 26, 3) := by decide +kernel
theorem dX5_kept_4 : decode cX5_kept 4 = .ok (.iload_n 1, 1) := by decide +kernel
theorem dX5_kept_5 : decode cX5_kept 5 = .ok (.invokevirtual 126, 3) := by decide +kernel
theorem dX5_kept_8 : decode cX5_kept 8 = .ok (.ifCond .ne 6, 3) := by decide +kernel
theorem dX5_kept_11 : decode cX5_kept 11 = .ok (.bipush (-102), 2) := by decide +kernel
theorem dX5_kept_13 : decode cX5_kept 13 = .ok (.ireturn, 1) := by decide +kernel
theorem dX5_kept_14 : decode cX5_kept 14 = .ok (.aload_n 0, 1) := by decide +kernel
theorem dX5_kept_15 : decode cX5_kept 15 = .ok (.getfield 35, 3) := by decide +kernel
theorem dX5_kept_18 : decode cX5_kept 18 = .ok (.invokevirtual 152, 3) := by decide +kernel
theorem dX5_kept_21 : decode cX5_kept 21 = .ok (.aload_n 0, 1) := by decide +kernel
theorem dX5_kept_22 : decode cX5_kept 22 = .ok (.getfield 35, 3) := by decide +kernel
theorem dX5_kept_25 : decode cX5_kept 25 = .ok (.iload_n 1, 1) := by decide +kernel
theorem dX5_kept_26 : decode cX5_kept 26 = .ok (.invokevirtual 158, 3) := by decide +kernel
theorem dX5_kept_29 : decode cX5_kept 29 = .ok (.ifCond .eq 7, 3) := by decide +kernel
theorem dX5_kept_32 : decode cX5_kept 32 = .ok (.iconst 1, 1) := by decide +kernel
theorem dX5_kept_33 : decode cX5_kept 33 = .ok (.goto 4, 3) := by decide +kernel
theorem dX5_kept_36 : decode cX5_kept 36 = .ok (.iconst 0, 1) := by decide +kernel
theorem dX5_kept_37 : decode cX5_kept 37 = .ok (.ireturn, 1) := by decide +kernel
set_option maxRecDepth 20000 in
theorem ggX5_hint_X3_study : GoodIn wsX5_hint wsX3_study := goodIn_r _ [6, 7, 8, 9, 5, 10, 11, 12, 13, 14, 15, 16, 17, 18, 19, 20, 21, 22, 23, 24, 25, 26, 27, 28, 29, 30, 31, 32, 33, 34, 35, 36, 37, 38, 39, 40, 41, 42, 43, 44, 45, 46, 47, 48, 49, 50, 51, 52, 53, 54, 55, 56, 57, 58, 59, 60, 61, 62, 63, 64, 65, 66, 67, 68, 69, 70, 71, 72, 73, 74, 75, 76, 77, 78, 79, 80, 81, 82, 83, 84, 85, 86, 87, 88, 89, 90, 91, 92, 93, 94, 95, 96, 97, 98, 99, 100, 101, 102, 103, 104, 105, 106, 107, 108, 109, 110, 111, 112, 113, 114, 115, 116, 117, 118, 119, 120, 121, 122, 123, 124, 125, 126, 127, 138, 139, 140, 141, 142, 143, 144, 145, 146, 147, 148, 149, 150, 151, 152, 153, 154, 155, 156, 157, 158, 159, 160, 161] (by decide +kernel) (by decide +kernel)
set_option maxRecDepth 20000 in
theorem gX5_hint_X3_study : GoodIn wsX5_hint (wsV RX5 152 RX3 yX3_study wsX3_study) := goodIn_app (goodIn_of _ (by decide +kernel)) ggX5_hint_X3_study
theorem dX5_hint_0 : decode cX5_hint 0 = .ok (.iload_n 1, 1) := by decide +kernel
theorem dX5_hint_1 : decode cX5_hint 1 = .ok (.ifCond .lt 8, 3) := by decide +kernel
theorem dX5_hint_4 : decode cX5_hint 4 = .ok (.iload_n 1, 1) := by decide +kernel
theorem dX5_hint_5 : decode cX5_hint 5 = .ok (.iconst 3, 1) := by decide +kernel
theorem dX5_hint_6 : decode cX5_hint 6 = .ok (.if_icmp .lt 6, 3) := by decide +kernel
theorem dX5_hint_9 : decode cX5_hint 9 = .ok (.bipush (-102), 2) := by decide +kernel
theorem dX5_hint_11 : decode cX5_hint 11 = .ok (.ireturn, 1) := by decide +kernel
theorem dX5_hint_12 : decode cX5_hint 12 = .ok (.aload_n 0, 1) := by decide +kernel
theorem dX5_hint_13 : decode cX5_hint 13 = .ok (.getfield 35, 3) := by decide +kernel
theorem dX5_hint_16 : decode cX5_hint 16 = .ok (.invokevirtual 152, 3) := by decide +kernel
theorem dX5_hint_19 : decode cX5_hint 19 = .ok (.iload_n 1, 1) := by decide +kernel
theorem dX5_hint_20 : decode cX5_hint 20 = .ok (.lookupswitch 44 #[(0, 28), (1, 36)], 28) := by decide +kernel
theorem dX5_hint_48 : decode cX5_hint 48 = .ok (.aload_n 0, 1) := by decide +kernel
theorem dX5_hint_49 : decode cX5_hint 49 = .ok (.getfield 35, 3) := by decide +kernel
theorem dX5_hint_52 : decode cX5_hint 52 = .ok (.getfield 161, 3) := by decide +kernel
theorem dX5_hint_55 : decode cX5_hint 55 = .ok (.ireturn, 1) := by decide +kernel
theorem dX5_hint_56 : decode cX5_hint 56 = .ok (.aload_n 0, 1) := by decide +kernel
theorem dX5_hint_57 : decode cX5_hint 57 = .ok (.getfield 35, 3) := by decide +kernel
theorem dX5_hint_60 : decode cX5_hint 60 = .ok (.getfield 164, 3) := by decide +kernel
theorem dX5_hint_63 : decode cX5_hint 63 = .ok (.ireturn, 1) := by decide +kernel
theorem dX5_hint_64 : decode cX5_hint 64 = .ok (.aload_n 0, 1) := by decide +kernel
theorem dX5_hint_65 : decode cX5_hint 65 = .ok (.getfield 35, 3) := by decide +kernel
theorem dX5_hint_68 : decode cX5_hint 68 = .ok (.getfield 167, 3) := by decide +kernel
theorem dX5_hint_71 : decode cX5_hint 71 = .ok (.ireturn, 1) := by decide +kernel
set_option maxRecDepth 20000 in
theorem ggX5_follow_X3_study : GoodIn wsX5_follow wsX3_study := goodIn_r _ [7, 8, 9, 10, 6, 11, 12, 13, 14, 15, 16, 17, 18, 19, 20, 21, 22, 23, 24, 25, 26, 27, 28, 29, 30, 31, 32, 33, 34, 35, 36, 37, 38, 39, 40, 41, 42, 43, 44, 45, 46, 47, 48, 49, 50, 51, 52, 53, 54, 55, 56, 57, 58, 59, 60, 61, 62, 63, 64, 65, 66, 67, 68, 69, 70, 71, 72, 73, 74, 75, 76, 77, 78, 79, 80, 81, 82, 83, 84, 85, 86, 87, 88, 89, 90, 91, 92, 93, 94, 95, 96, 97, 98, 99, 100, 101, 102, 103, 104, 105, 106, 107, 108, 109, 110, 111, 112, 113, 114, 115, 116, 117, 118, 119, 120, 121, 122, 123, 124, 125, 126, 127, 128, 156, 157, 158, 159, 160, 161, 162, 163, 164, 165, 166, 167, 168, 169, 170, 171, 172, 173, 174, 175, 176, 177, 178, 179] (by decide +kernel) (by decide +kernel)
set_option maxRecDepth 20000 in
theorem gX5_follow_X3_study : GoodIn wsX5_follow (wsV RX5 152 RX3 yX3_study wsX3_study) := goodIn_app (goodIn_of _ (by decide +kernel)) ggX5_follow_X3_study
set_option maxRecDepth 20000 in
theorem ggX5_follow_X5_doHint : GoodIn wsX5_follow wsX5_doHint := goodIn_r _ [133, 1, 134, 135, 136, 137, 138, 19, 139, 21, 26, 22, 23, 24, 25, 140, 141, 142, 143, 144, 48, 49, 50, 145, 28, 29, 30, 31, 32, 33, 34, 35, 36, 37, 146, 147, 148, 149, 150, 151, 152, 153, 154, 155, 156, 157, 158, 159, 160, 161, 162, 163, 164, 165, 166, 167, 168, 169, 170, 171, 172, 173] (by decide +kernel) (by decide +kernel)
set_option maxRecDepth 20000 in
theorem gX5_follow_X5_doHint : GoodIn wsX5_follow (wsV RX5 170 RX5 yX5_doHint wsX5_doHint) := goodIn_app (goodIn_of _ (by decide +kernel)) ggX5_follow_X5_doHint
theorem dX5_follow_0 : decode cX5_follow 0 = .ok (.aload_n 0, 1) := by decide +kernel
theorem dX5_follow_1 : decode cX5_follow 1 = .ok (.getfield 35, 3) := by decide +kernel
theorem dX5_follow_4 : decode cX5_follow 4 = .ok (.invokevirtual 152, 3) := by decide +kernel
theorem dX5_follow_7 : decode cX5_follow 7 = .ok (.aload_n 0, 1) := by decide +kernel
theorem dX5_follow_8 : decode cX5_follow 8 = .ok (.getfield 35, 3) := by decide +kernel
theorem dX5_follow_11 : decode cX5_follow 11 = .ok (.getfield 161, 3) := by decide +kernel
theorem dX5_follow_14 : decode cX5_follow 14 = .ok (.iconst (-1), 1) := by decide +kernel
theorem dX5_follow_15 : decode cX5_follow 15 = .ok (.if_icmp .ne 5, 3) := by decide +kernel
theorem dX5_follow_18 : decode cX5_follow 18 = .ok (.iconst (-1), 1) := by decide +kernel
theorem dX5_follow_19 : decode cX5_follow 19 = .ok (.ireturn, 1) := by decide +kernel
theorem dX5_follow_20 : decode cX5_follow 20 = .ok (.aload_n 0, 1) := by decide +kernel
theorem dX5_follow_21 : decode cX5_follow 21 = .ok (.invokevirtual 170, 3) := by decide +kernel
theorem dX5_follow_24 : decode cX5_follow 24 = .ok (.aload_n 0, 1) := by decide +kernel
theorem dX5_follow_25 : decode cX5_follow 25 = .ok (.dup, 1) := by decide +kernel
theorem dX5_follow_26 : decode cX5_follow 26 = .ok (.getfield 173, 3) := by decide +kernel
theorem dX5_follow_29 : decode cX5_follow 29 = .ok (.iconst 1, 1) := by decide +kernel
theorem dX5_follow_30 : decode cX5_follow 30 = .ok (.iadd, 1) := by decide +kernel
theorem dX5_follow_31 : decode cX5_follow 31 = .ok (.putfield 173, 3) := by decide +kernel
theorem dX5_follow_34 : decode cX5_follow 34 = .ok (.aload_n 0, 1) := by decide +kernel
theorem dX5_follow_35 : decode cX5_follow 35 = .ok (.getfield 35, 3) := by decide +kernel
theorem dX5_follow_38 : decode cX5_follow 38 = .ok (.invokevirtual 152, 3) := by decide +kernel
theorem dX5_follow_41 : decode cX5_follow 41 = .ok (.aload_n 0, 1) := by decide +kernel
theorem dX5_follow_42 : decode cX5_follow 42 = .ok (.getfield 35, 3) := by decide +kernel
theorem dX5_follow_45 : decode cX5_follow 45 = .ok (.getfield 155, 3) := by decide +kernel
theorem dX5_follow_48 : decode cX5_follow 48 = .ok (.ireturn, 1) := by decide +kernel
set_option maxRecDepth 20000 in
theorem ggX5_count_X1_manyOf : GoodIn wsX5_count wsX1_manyOf := goodIn_r _ [9, 10, 11, 36, 37, 38, 39, 40, 41] (by decide +kernel) (by decide +kernel)
set_option maxRecDepth 20000 in
theorem gX5_count_X1_manyOf : GoodIn wsX5_count (wsV RX5 176 RX1 yX1_manyOf wsX1_manyOf) := goodIn_app (goodIn_of _ (by decide +kernel)) ggX5_count_X1_manyOf
set_option maxRecDepth 20000 in
theorem ggX5_count_X4_manyPairs : GoodIn wsX5_count wsX4_manyPairs := goodIn_r _ [16, 17, 18, 19, 20, 21, 22, 23, 24, 25, 42, 43, 44, 45, 46, 47] (by decide +kernel) (by decide +kernel)
set_option maxRecDepth 20000 in
theorem gX5_count_X4_manyPairs : GoodIn wsX5_count (wsV RX5 179 RX4 yX4_manyPairs wsX4_manyPairs) := goodIn_app (goodIn_of _ (by decide +kernel)) ggX5_count_X4_manyPairs
theorem dX5_count_0 : decode cX5_count 0 = .ok (.iload_n 1, 1) := by decide +kernel
theorem dX5_count_1 : decode cX5_count 1 = .ok (.tableswitch 95 0 6 #[43, 51, 59, 68, 77, 82, 90], 43) := by decide +kernel
theorem dX5_count_44 : decode cX5_count 44 = .ok (.aload_n 0, 1) := by decide +kernel
theorem dX5_count_45 : decode cX5_count 45 = .ok (.getfield 10, 3) := by decide +kernel
theorem dX5_count_48 : decode cX5_count 48 = .ok (.getfield 57, 3) := by decide +kernel
theorem dX5_count_51 : decode cX5_count 51 = .ok (.ireturn, 1) := by decide +kernel
theorem dX5_count_52 : decode cX5_count 52 = .ok (.aload_n 0, 1) := by decide +kernel
theorem dX5_count_53 : decode cX5_count 53 = .ok (.getfield 19, 3) := by decide +kernel
theorem dX5_count_56 : decode cX5_count 56 = .ok (.getfield 61, 3) := by decide +kernel
theorem dX5_count_59 : decode cX5_count 59 = .ok (.ireturn, 1) := by decide +kernel
theorem dX5_count_60 : decode cX5_count 60 = .ok (.aload_n 0, 1) := by decide +kernel
theorem dX5_count_61 : decode cX5_count 61 = .ok (.getfield 10, 3) := by decide +kernel
theorem dX5_count_64 : decode cX5_count 64 = .ok (.iconst 1, 1) := by decide +kernel
theorem dX5_count_65 : decode cX5_count 65 = .ok (.invokevirtual 176, 3) := by decide +kernel
theorem dX5_count_68 : decode cX5_count 68 = .ok (.ireturn, 1) := by decide +kernel
theorem dX5_count_69 : decode cX5_count 69 = .ok (.aload_n 0, 1) := by decide +kernel
theorem dX5_count_70 : decode cX5_count 70 = .ok (.getfield 10, 3) := by decide +kernel
theorem dX5_count_73 : decode cX5_count 73 = .ok (.iconst 2, 1) := by decide +kernel
theorem dX5_count_74 : decode cX5_count 74 = .ok (.invokevirtual 176, 3) := by decide +kernel
theorem dX5_count_77 : decode cX5_count 77 = .ok (.ireturn, 1) := by decide +kernel
theorem dX5_count_78 : decode cX5_count 78 = .ok (.aload_n 0, 1) := by decide +kernel
theorem dX5_count_79 : decode cX5_count 79 = .ok (.getfield 88, 3) := by decide +kernel
theorem dX5_count_82 : decode cX5_count 82 = .ok (.ireturn, 1) := by decide +kernel
theorem dX5_count_83 : decode cX5_count 83 = .ok (.aload_n 0, 1) := by decide +kernel
theorem dX5_count_84 : decode cX5_count 84 = .ok (.getfield 19, 3) := by decide +kernel
theorem dX5_count_87 : decode cX5_count 87 = .ok (.invokevirtual 179, 3) := by decide +kernel
theorem dX5_count_90 : decode cX5_count 90 = .ok (.ireturn, 1) := by decide +kernel
theorem dX5_count_91 : decode cX5_count 91 = .ok (.aload_n 0, 1) := by decide +kernel
theorem dX5_count_92 : decode cX5_count 92 = .ok (.getfield 173, 3) := by decide +kernel
theorem dX5_count_95 : decode cX5_count 95 = .ok (.ireturn, 1) := by decide +kernel
theorem dX5_count_96 : decode cX5_count 96 = .ok (.bipush (-102), 2) := by decide +kernel
theorem dX5_count_98 : decode cX5_count 98 = .ok (.ireturn, 1) := by decide +kernel
set_option maxRecDepth 20000 in
theorem ggX5_digest_X1_tell : GoodIn wsX5_digest wsX1_tell := goodIn_r _ [12, 13, 14, 15, 16, 17, 18, 19, 20, 11, 21, 22, 44, 45, 46, 47, 48, 49] (by decide +kernel) (by decide +kernel)
set_option maxRecDepth 20000 in
theorem gX5_digest_X1_tell : GoodIn wsX5_digest (wsV RX5 96 RX1 yX1_tell wsX1_tell) := goodIn_app (goodIn_of _ (by decide +kernel)) ggX5_digest_X1_tell
set_option maxRecDepth 20000 in
theorem ggX5_digest_X0_lineAt : GoodIn wsX5_digest wsX0_lineAt := goodIn_r _ [27, 28, 29, 30, 31, 26, 32, 33, 50, 51] (by decide +kernel) (by decide +kernel)
set_option maxRecDepth 20000 in
theorem gX5_digest_X0_lineAt : GoodIn wsX5_digest (wsV RX5 132 RX0 yX0_lineAt wsX0_lineAt) := goodIn_app (goodIn_of _ (by decide +kernel)) ggX5_digest_X0_lineAt
theorem dX5_digest_0 : decode cX5_digest 0 = .ok (.ldc2_w 183, 3) := by decide +kernel
theorem dX5_digest_3 : decode cX5_digest 3 = .ok (.lstore_n 1, 1) := by decide +kernel
theorem dX5_digest_4 : decode cX5_digest 4 = .ok (.iconst 0, 1) := by decide +kernel
theorem dX5_digest_5 : decode cX5_digest 5 = .ok (.istore_n 3, 1) := by decide +kernel
theorem dX5_digest_6 : decode cX5_digest 6 = .ok (.iload_n 3, 1) := by decide +kernel
theorem dX5_digest_7 : decode cX5_digest 7 = .ok (.aload_n 0, 1) := by decide +kernel
theorem dX5_digest_8 : decode cX5_digest 8 = .ok (.getfield 10, 3) := by decide +kernel
theorem dX5_digest_11 : decode cX5_digest 11 = .ok (.getfield 57, 3) := by decide +kernel
theorem dX5_digest_14 : decode cX5_digest 14 = .ok (.if_icmp .ge 42, 3) := by decide +kernel
theorem dX5_digest_17 : decode cX5_digest 17 = .ok (.iconst 0, 1) := by decide +kernel
theorem dX5_digest_18 : decode cX5_digest 18 = .ok (.istore 4, 2) := by decide +kernel
theorem dX5_digest_20 : decode cX5_digest 20 = .ok (.iload 4, 2) := by decide +kernel
theorem dX5_digest_22 : decode cX5_digest 22 = .ok (.iconst 5, 1) := by decide +kernel
theorem dX5_digest_23 : decode cX5_digest 23 = .ok (.if_icmp .ge 27, 3) := by decide +kernel
theorem dX5_digest_26 : decode cX5_digest 26 = .ok (.ldc2_w 185, 3) := by decide +kernel
theorem dX5_digest_29 : decode cX5_digest 29 = .ok (.lload_n 1, 1) := by decide +kernel
theorem dX5_digest_30 : decode cX5_digest 30 = .ok (.lmul, 1) := by decide +kernel
theorem dX5_digest_31 : decode cX5_digest 31 = .ok (.aload_n 0, 1) := by decide +kernel
theorem dX5_digest_32 : decode cX5_digest 32 = .ok (.getfield 10, 3) := by decide +kernel
theorem dX5_digest_35 : decode cX5_digest 35 = .ok (.iload_n 3, 1) := by decide +kernel
theorem dX5_digest_36 : decode cX5_digest 36 = .ok (.iload 4, 2) := by decide +kernel
theorem dX5_digest_38 : decode cX5_digest 38 = .ok (.invokevirtual 96, 3) := by decide +kernel
theorem dX5_digest_41 : decode cX5_digest 41 = .ok (.i2l, 1) := by decide +kernel
theorem dX5_digest_42 : decode cX5_digest 42 = .ok (.ladd, 1) := by decide +kernel
theorem dX5_digest_43 : decode cX5_digest 43 = .ok (.lstore_n 1, 1) := by decide +kernel
theorem dX5_digest_44 : decode cX5_digest 44 = .ok (.iinc 4 1, 3) := by decide +kernel
theorem dX5_digest_47 : decode cX5_digest 47 = .ok (.goto (-27), 3) := by decide +kernel
theorem dX5_digest_50 : decode cX5_digest 50 = .ok (.iinc 3 1, 3) := by decide +kernel
theorem dX5_digest_53 : decode cX5_digest 53 = .ok (.goto (-47), 3) := by decide +kernel
theorem dX5_digest_56 : decode cX5_digest 56 = .ok (.iconst 0, 1) := by decide +kernel
theorem dX5_digest_57 : decode cX5_digest 57 = .ok (.istore_n 3, 1) := by decide +kernel
theorem dX5_digest_58 : decode cX5_digest 58 = .ok (.iload_n 3, 1) := by decide +kernel
theorem dX5_digest_59 : decode cX5_digest 59 = .ok (.aload_n 0, 1) := by decide +kernel
theorem dX5_digest_60 : decode cX5_digest 60 = .ok (.getfield 88, 3) := by decide +kernel
theorem dX5_digest_63 : decode cX5_digest 63 = .ok (.if_icmp .ge 42, 3) := by decide +kernel
theorem dX5_digest_66 : decode cX5_digest 66 = .ok (.iconst 0, 1) := by decide +kernel
theorem dX5_digest_67 : decode cX5_digest 67 = .ok (.istore 4, 2) := by decide +kernel
theorem dX5_digest_69 : decode cX5_digest 69 = .ok (.iload 4, 2) := by decide +kernel
theorem dX5_digest_71 : decode cX5_digest 71 = .ok (.bipush 6, 2) := by decide +kernel
theorem dX5_digest_73 : decode cX5_digest 73 = .ok (.if_icmp .ge 26, 3) := by decide +kernel
theorem dX5_digest_76 : decode cX5_digest 76 = .ok (.ldc2_w 185, 3) := by decide +kernel
theorem dX5_digest_79 : decode cX5_digest 79 = .ok (.lload_n 1, 1) := by decide +kernel
theorem dX5_digest_80 : decode cX5_digest 80 = .ok (.lmul, 1) := by decide +kernel
theorem dX5_digest_81 : decode cX5_digest 81 = .ok (.aload_n 0, 1) := by decide +kernel
theorem dX5_digest_82 : decode cX5_digest 82 = .ok (.getfield 41, 3) := by decide +kernel
theorem dX5_digest_85 : decode cX5_digest 85 = .ok (.iload_n 3, 1) := by decide +kernel
theorem dX5_digest_86 : decode cX5_digest 86 = .ok (.aaload, 1) := by decide +kernel
theorem dX5_digest_87 : decode cX5_digest 87 = .ok (.iload 4, 2) := by decide +kernel
theorem dX5_digest_89 : decode cX5_digest 89 = .ok (.iaload, 1) := by decide +kernel
theorem dX5_digest_90 : decode cX5_digest 90 = .ok (.i2l, 1) := by decide +kernel
theorem dX5_digest_91 : decode cX5_digest 91 = .ok (.ladd, 1) := by decide +kernel
theorem dX5_digest_92 : decode cX5_digest 92 = .ok (.lstore_n 1, 1) := by decide +kernel
theorem dX5_digest_93 : decode cX5_digest 93 = .ok (.iinc 4 1, 3) := by decide +kernel
theorem dX5_digest_96 : decode cX5_digest 96 = .ok (.goto (-27), 3) := by decide +kernel
theorem dX5_digest_99 : decode cX5_digest 99 = .ok (.iinc 3 1, 3) := by decide +kernel
theorem dX5_digest_102 : decode cX5_digest 102 = .ok (.goto (-44), 3) := by decide +kernel
theorem dX5_digest_105 : decode cX5_digest 105 = .ok (.iconst 0, 1) := by decide +kernel
theorem dX5_digest_106 : decode cX5_digest 106 = .ok (.istore_n 3, 1) := by decide +kernel
theorem dX5_digest_107 : decode cX5_digest 107 = .ok (.iload_n 3, 1) := by decide +kernel
theorem dX5_digest_108 : decode cX5_digest 108 = .ok (.aload_n 0, 1) := by decide +kernel
theorem dX5_digest_109 : decode cX5_digest 109 = .ok (.getfield 26, 3) := by decide +kernel
theorem dX5_digest_112 : decode cX5_digest 112 = .ok (.getfield 87, 3) := by decide +kernel
theorem dX5_digest_115 : decode cX5_digest 115 = .ok (.if_icmp .ge 25, 3) := by decide +kernel
theorem dX5_digest_118 : decode cX5_digest 118 = .ok (.ldc2_w 185, 3) := by decide +kernel
theorem dX5_digest_121 : decode cX5_digest 121 = .ok (.lload_n 1, 1) := by decide +kernel
theorem dX5_digest_122 : decode cX5_digest 122 = .ok (.lmul, 1) := by decide +kernel
theorem dX5_digest_123 : decode cX5_digest 123 = .ok (.aload_n 0, 1) := by decide +kernel
theorem dX5_digest_124 : decode cX5_digest 124 = .ok (.getfield 26, 3) := by decide +kernel
theorem dX5_digest_127 : decode cX5_digest 127 = .ok (.iload_n 3, 1) := by decide +kernel
theorem dX5_digest_128 : decode cX5_digest 128 = .ok (.invokevirtual 132, 3) := by decide +kernel
theorem dX5_digest_131 : decode cX5_digest 131 = .ok (.i2l, 1) := by decide +kernel
theorem dX5_digest_132 : decode cX5_digest 132 = .ok (.ladd, 1) := by decide +kernel
theorem dX5_digest_133 : decode cX5_digest 133 = .ok (.lstore_n 1, 1) := by decide +kernel
theorem dX5_digest_134 : decode cX5_digest 134 = .ok (.iinc 3 1, 3) := by decide +kernel
theorem dX5_digest_137 : decode cX5_digest 137 = .ok (.goto (-30), 3) := by decide +kernel
theorem dX5_digest_140 : decode cX5_digest 140 = .ok (.ldc2_w 185, 3) := by decide +kernel
theorem dX5_digest_143 : decode cX5_digest 143 = .ok (.lload_n 1, 1) := by decide +kernel
theorem dX5_digest_144 : decode cX5_digest 144 = .ok (.lmul, 1) := by decide +kernel
theorem dX5_digest_145 : decode cX5_digest 145 = .ok (.aload_n 0, 1) := by decide +kernel
theorem dX5_digest_146 : decode cX5_digest 146 = .ok (.getfield 173, 3) := by decide +kernel
theorem dX5_digest_149 : decode cX5_digest 149 = .ok (.i2l, 1) := by decide +kernel
theorem dX5_digest_150 : decode cX5_digest 150 = .ok (.ladd, 1) := by decide +kernel
theorem dX5_digest_151 : decode cX5_digest 151 = .ok (.lreturn, 1) := by decide +kernel
set_option maxRecDepth 20000 in
theorem ggX5_refusalOfLine_X1_isAsTold : GoodIn wsX5_refusalOfLine wsX1_isAsTold := goodIn_r _ [5, 6, 7, 4, 8] (by decide +kernel) (by decide +kernel)
set_option maxRecDepth 20000 in
theorem gX5_refusalOfLine_X1_isAsTold : GoodIn wsX5_refusalOfLine (va_wsS RX5 187 yX1_isAsTold wsX1_isAsTold) := goodIn_app (goodIn_of _ (by decide +kernel)) ggX5_refusalOfLine_X1_isAsTold
theorem dX5_refusalOfLine_0 : decode cX5_refusalOfLine 0 = .ok (.iload_n 1, 1) := by decide +kernel
theorem dX5_refusalOfLine_1 : decode cX5_refusalOfLine 1 = .ok (.iload_n 2, 1) := by decide +kernel
theorem dX5_refusalOfLine_2 : decode cX5_refusalOfLine 2 = .ok (.iload_n 3, 1) := by decide +kernel
theorem dX5_refusalOfLine_3 : decode cX5_refusalOfLine 3 = .ok (.invokestatic 187, 3) := by decide +kernel
theorem dX5_refusalOfLine_6 : decode cX5_refusalOfLine 6 = .ok (.ifCond .ne 6, 3) := by decide +kernel
theorem dX5_refusalOfLine_9 : decode cX5_refusalOfLine 9 = .ok (.bipush (-102), 2) := by decide +kernel
theorem dX5_refusalOfLine_11 : decode cX5_refusalOfLine 11 = .ok (.ireturn, 1) := by decide +kernel
theorem dX5_refusalOfLine_12 : decode cX5_refusalOfLine 12 = .ok (.aload_n 0, 1) := by decide +kernel
theorem dX5_refusalOfLine_13 : decode cX5_refusalOfLine 13 = .ok (.getfield 26, 3) := by decide +kernel
theorem dX5_refusalOfLine_16 : decode cX5_refusalOfLine 16 = .ok (.getfield 87, 3) := by decide +kernel
theorem dX5_refusalOfLine_19 : decode cX5_refusalOfLine 19 = .ok (.ifCond .le 6, 3) := by decide +kernel
theorem dX5_refusalOfLine_22 : decode cX5_refusalOfLine 22 = .ok (.bipush (-103), 2) := by decide +kernel
theorem dX5_refusalOfLine_24 : decode cX5_refusalOfLine 24 = .ok (.ireturn, 1) := by decide +kernel
theorem dX5_refusalOfLine_25 : decode cX5_refusalOfLine 25 = .ok (.iload 4, 2) := by decide +kernel
theorem dX5_refusalOfLine_27 : decode cX5_refusalOfLine 27 = .ok (.ifCond .eq 8, 3) := by decide +kernel
theorem dX5_refusalOfLine_30 : decode cX5_refusalOfLine 30 = .ok (.bipush (-104), 2) := by decide +kernel
theorem dX5_refusalOfLine_32 : decode cX5_refusalOfLine 32 = .ok (.goto 4, 3) := by decide +kernel
theorem dX5_refusalOfLine_35 : decode cX5_refusalOfLine 35 = .ok (.iconst 0, 1) := by decide +kernel
theorem dX5_refusalOfLine_36 : decode cX5_refusalOfLine 36 = .ok (.ireturn, 1) := by decide +kernel
set_option maxRecDepth 20000 in
theorem ggX5_perform_X2_start : GoodIn wsX5_perform wsX2_start := goodIn_r _ [9, 10, 11, 12, 13, 14, 15, 91, 92, 93] (by decide +kernel) (by decide +kernel)
set_option maxRecDepth 20000 in
theorem gX5_perform_X2_start : GoodIn wsX5_perform (wsV RX5 191 RX2 yX2_start wsX2_start) := goodIn_app (goodIn_of _ (by decide +kernel)) ggX5_perform_X2_start
set_option maxRecDepth 20000 in
theorem ggX5_perform_X4_lineOf : GoodIn wsX5_perform wsX4_lineOf := goodIn_r _ [20, 21, 22, 83, 84, 85, 86, 87, 88] (by decide +kernel) (by decide +kernel)
set_option maxRecDepth 20000 in
theorem gX5_perform_X4_lineOf : GoodIn wsX5_perform (wsV RX5 195 RX4 yX4_lineOf wsX4_lineOf) := goodIn_app (goodIn_of _ (by decide +kernel)) ggX5_perform_X4_lineOf
set_option maxRecDepth 20000 in
theorem ggX5_perform_X0_lineAt : GoodIn wsX5_perform wsX0_lineAt := goodIn_r _ [27, 28, 29, 30, 31, 26, 32, 33, 89, 90] (by decide +kernel) (by decide +kernel)
set_option maxRecDepth 20000 in
theorem gX5_perform_X0_lineAt : GoodIn wsX5_perform (wsV RX5 132 RX0 yX0_lineAt wsX0_lineAt) := goodIn_app (goodIn_of _ (by decide +kernel)) ggX5_perform_X0_lineAt
set_option maxRecDepth 20000 in
theorem ggX5_perform_X2_step : GoodIn wsX5_perform wsX2_step := goodIn_r _ [37, 38, 39, 40, 41, 42, 43, 44, 45, 46, 47, 48, 49, 50, 51, 52, 53, 54, 55, 56, 57, 58, 59, 8, 60, 10, 61, 62, 63, 64, 65, 66, 67, 68, 69, 70, 71, 15, 72, 94, 95, 96, 97, 98, 99, 91, 92, 93] (by decide +kernel) (by decide +kernel)
set_option maxRecDepth 20000 in
theorem gX5_perform_X2_step : GoodIn wsX5_perform (wsV RX5 198 RX2 yX2_step wsX2_step) := goodIn_app (goodIn_of _ (by decide +kernel)) ggX5_perform_X2_step
theorem dX5_perform_0 : decode cX5_perform 0 = .ok (.aload_n 1, 1) := by decide +kernel
theorem dX5_perform_1 : decode cX5_perform 1 = .ok (.aload_n 0, 1) := by decide +kernel
theorem dX5_perform_2 : decode cX5_perform 2 = .ok (.getfield 41, 3) := by decide +kernel
theorem dX5_perform_5 : decode cX5_perform 5 = .ok (.iload_n 2, 1) := by decide +kernel
theorem dX5_perform_6 : decode cX5_perform 6 = .ok (.aaload, 1) := by decide +kernel
theorem dX5_perform_7 : decode cX5_perform 7 = .ok (.invokevirtual 191, 3) := by decide +kernel
theorem dX5_perform_10 : decode cX5_perform 10 = .ok (.iload_n 3, 1) := by decide +kernel
theorem dX5_perform_11 : decode cX5_perform 11 = .ok (.ifCond .eq 13, 3) := by decide +kernel
theorem dX5_perform_14 : decode cX5_perform 14 = .ok (.aload_n 0, 1) := by decide +kernel
theorem dX5_perform_15 : decode cX5_perform 15 = .ok (.getfield 19, 3) := by decide +kernel
theorem dX5_perform_18 : decode cX5_perform 18 = .ok (.getfield 61, 3) := by decide +kernel
theorem dX5_perform_21 : decode cX5_perform 21 = .ok (.goto 10, 3) := by decide +kernel
theorem dX5_perform_24 : decode cX5_perform 24 = .ok (.aload_n 0, 1) := by decide +kernel
theorem dX5_perform_25 : decode cX5_perform 25 = .ok (.getfield 26, 3) := by decide +kernel
theorem dX5_perform_28 : decode cX5_perform 28 = .ok (.getfield 87, 3) := by decide +kernel
theorem dX5_perform_31 : decode cX5_perform 31 = .ok (.istore 4, 2) := by decide +kernel
theorem dX5_perform_33 : decode cX5_perform 33 = .ok (.iconst 0, 1) := by decide +kernel
theorem dX5_perform_34 : decode cX5_perform 34 = .ok (.istore 5, 2) := by decide +kernel
theorem dX5_perform_36 : decode cX5_perform 36 = .ok (.iload 5, 2) := by decide +kernel
theorem dX5_perform_38 : decode cX5_perform 38 = .ok (.iload 4, 2) := by decide +kernel
theorem dX5_perform_40 : decode cX5_perform 40 = .ok (.if_icmp .ge 42, 3) := by decide +kernel
theorem dX5_perform_43 : decode cX5_perform 43 = .ok (.aload_n 1, 1) := by decide +kernel
theorem dX5_perform_44 : decode cX5_perform 44 = .ok (.aload_n 0, 1) := by decide +kernel
theorem dX5_perform_45 : decode cX5_perform 45 = .ok (.getfield 10, 3) := by decide +kernel
theorem dX5_perform_48 : decode cX5_perform 48 = .ok (.iload_n 3, 1) := by decide +kernel
theorem dX5_perform_49 : decode cX5_perform 49 = .ok (.ifCond .eq 15, 3) := by decide +kernel
theorem dX5_perform_52 : decode cX5_perform 52 = .ok (.aload_n 0, 1) := by decide +kernel
theorem dX5_perform_53 : decode cX5_perform 53 = .ok (.getfield 19, 3) := by decide +kernel
theorem dX5_perform_56 : decode cX5_perform 56 = .ok (.iload 5, 2) := by decide +kernel
theorem dX5_perform_58 : decode cX5_perform 58 = .ok (.invokevirtual 195, 3) := by decide +kernel
theorem dX5_perform_61 : decode cX5_perform 61 = .ok (.goto 12, 3) := by decide +kernel
theorem dX5_perform_64 : decode cX5_perform 64 = .ok (.aload_n 0, 1) := by decide +kernel
theorem dX5_perform_65 : decode cX5_perform 65 = .ok (.getfield 26, 3) := by decide +kernel
theorem dX5_perform_68 : decode cX5_perform 68 = .ok (.iload 5, 2) := by decide +kernel
theorem dX5_perform_70 : decode cX5_perform 70 = .ok (.invokevirtual 132, 3) := by decide +kernel
theorem dX5_perform_73 : decode cX5_perform 73 = .ok (.invokevirtual 198, 3) := by decide +kernel
theorem dX5_perform_76 : decode cX5_perform 76 = .ok (.iinc 5 1, 3) := by decide +kernel
theorem dX5_perform_79 : decode cX5_perform 79 = .ok (.goto (-43), 3) := by decide +kernel
theorem dX5_perform_82 : decode cX5_perform 82 = .ok (.return_, 1) := by decide +kernel
set_option maxRecDepth 20000 in
theorem ggX5_doHint_X0_remove : GoodIn wsX5_doHint wsX0_remove := goodIn_r _ [8, 9, 10, 11, 12, 13, 7, 14, 54, 55] (by decide +kernel) (by decide +kernel)
set_option maxRecDepth 20000 in
theorem gX5_doHint_X0_remove : GoodIn wsX5_doHint (wsV RX5 129 RX0 yX0_remove wsX0_remove) := goodIn_app (goodIn_of _ (by decide +kernel)) ggX5_doHint_X0_remove
set_option maxRecDepth 20000 in
theorem ggX5_doHint_X0_insert : GoodIn wsX5_doHint wsX0_insert := goodIn_r _ [18, 10, 9, 54, 55] (by decide +kernel) (by decide +kernel)
set_option maxRecDepth 20000 in
theorem gX5_doHint_X0_insert : GoodIn wsX5_doHint (wsV RX5 122 RX0 yX0_insert wsX0_insert) := goodIn_app (goodIn_of _ (by decide +kernel)) ggX5_doHint_X0_insert
set_option maxRecDepth 20000 in
theorem ggX5_doHint_X0_placeOf : GoodIn wsX5_doHint wsX0_placeOf := goodIn_r _ [22, 10, 9, 54, 55] (by decide +kernel) (by decide +kernel)
set_option maxRecDepth 20000 in
theorem gX5_doHint_X0_placeOf : GoodIn wsX5_doHint (wsV RX5 201 RX0 yX0_placeOf wsX0_placeOf) := goodIn_app (goodIn_of _ (by decide +kernel)) ggX5_doHint_X0_placeOf
set_option maxRecDepth 20000 in
theorem ggX5_doHint_X1_mateOf : GoodIn wsX5_doHint wsX1_mateOf := goodIn_r _ [27, 28, 29, 30, 31, 26, 32, 33, 56, 57, 58, 59, 60, 61] (by decide +kernel) (by decide +kernel)
set_option maxRecDepth 20000 in
theorem gX5_doHint_X1_mateOf : GoodIn wsX5_doHint (wsV RX5 84 RX1 yX1_mateOf wsX1_mateOf) := goodIn_app (goodIn_of _ (by decide +kernel)) ggX5_doHint_X1_mateOf
theorem dX5_doHint_0 : decode cX5_doHint 0 = .ok (.aload_n 0, 1) := by decide +kernel
theorem dX5_doHint_1 : decode cX5_doHint 1 = .ok (.getfield 35, 3) := by decide +kernel
theorem dX5_doHint_4 : decode cX5_doHint 4 = .ok (.getfield 164, 3) := by decide +kernel
theorem dX5_doHint_7 : decode cX5_doHint 7 = .ok (.istore_n 1, 1) := by decide +kernel
theorem dX5_doHint_8 : decode cX5_doHint 8 = .ok (.aload_n 0, 1) := by decide +kernel
theorem dX5_doHint_9 : decode cX5_doHint 9 = .ok (.getfield 35, 3) := by decide +kernel
theorem dX5_doHint_12 : decode cX5_doHint 12 = .ok (.getfield 167, 3) := by decide +kernel
theorem dX5_doHint_15 : decode cX5_doHint 15 = .ok (.istore_n 2, 1) := by decide +kernel
theorem dX5_doHint_16 : decode cX5_doHint 16 = .ok (.aload_n 0, 1) := by decide +kernel
theorem dX5_doHint_17 : decode cX5_doHint 17 = .ok (.getfield 35, 3) := by decide +kernel
theorem dX5_doHint_20 : decode cX5_doHint 20 = .ok (.getfield 161, 3) := by decide +kernel
theorem dX5_doHint_23 : decode cX5_doHint 23 = .ok (.tableswitch 77 0 2 #[25, 37, 49], 25) := by decide +kernel
theorem dX5_doHint_48 : decode cX5_doHint 48 = .ok (.aload_n 0, 1) := by decide +kernel
theorem dX5_doHint_49 : decode cX5_doHint 49 = .ok (.getfield 26, 3) := by decide +kernel
theorem dX5_doHint_52 : decode cX5_doHint 52 = .ok (.iload_n 2, 1) := by decide +kernel
theorem dX5_doHint_53 : decode cX5_doHint 53 = .ok (.invokevirtual 129, 3) := by decide +kernel
theorem dX5_doHint_56 : decode cX5_doHint 56 = .ok (.pop, 1) := by decide +kernel
theorem dX5_doHint_57 : decode cX5_doHint 57 = .ok (.goto 68, 3) := by decide +kernel
theorem dX5_doHint_60 : decode cX5_doHint 60 = .ok (.aload_n 0, 1) := by decide +kernel
theorem dX5_doHint_61 : decode cX5_doHint 61 = .ok (.getfield 26, 3) := by decide +kernel
theorem dX5_doHint_64 : decode cX5_doHint 64 = .ok (.iload_n 1, 1) := by decide +kernel
theorem dX5_doHint_65 : decode cX5_doHint 65 = .ok (.iload_n 2, 1) := by decide +kernel
theorem dX5_doHint_66 : decode cX5_doHint 66 = .ok (.invokevirtual 122, 3) := by decide +kernel
theorem dX5_doHint_69 : decode cX5_doHint 69 = .ok (.goto 56, 3) := by decide +kernel
theorem dX5_doHint_72 : decode cX5_doHint 72 = .ok (.aload_n 0, 1) := by decide +kernel
theorem dX5_doHint_73 : decode cX5_doHint 73 = .ok (.getfield 26, 3) := by decide +kernel
theorem dX5_doHint_76 : decode cX5_doHint 76 = .ok (.aload_n 0, 1) := by decide +kernel
theorem dX5_doHint_77 : decode cX5_doHint 77 = .ok (.getfield 26, 3) := by decide +kernel
theorem dX5_doHint_80 : decode cX5_doHint 80 = .ok (.iload_n 1, 1) := by decide +kernel
theorem dX5_doHint_81 : decode cX5_doHint 81 = .ok (.invokevirtual 201, 3) := by decide +kernel
theorem dX5_doHint_84 : decode cX5_doHint 84 = .ok (.invokevirtual 129, 3) := by decide +kernel
theorem dX5_doHint_87 : decode cX5_doHint 87 = .ok (.pop, 1) := by decide +kernel
theorem dX5_doHint_88 : decode cX5_doHint 88 = .ok (.aload_n 0, 1) := by decide +kernel
theorem dX5_doHint_89 : decode cX5_doHint 89 = .ok (.getfield 26, 3) := by decide +kernel
theorem dX5_doHint_92 : decode cX5_doHint 92 = .ok (.iload_n 1, 1) := by decide +kernel
theorem dX5_doHint_93 : decode cX5_doHint 93 = .ok (.iload_n 2, 1) := by decide +kernel
theorem dX5_doHint_94 : decode cX5_doHint 94 = .ok (.invokevirtual 122, 3) := by decide +kernel
theorem dX5_doHint_97 : decode cX5_doHint 97 = .ok (.goto 28, 3) := by decide +kernel
theorem dX5_doHint_100 : decode cX5_doHint 100 = .ok (.aload_n 0, 1) := by decide +kernel
theorem dX5_doHint_101 : decode cX5_doHint 101 = .ok (.getfield 26, 3) := by decide +kernel
theorem dX5_doHint_104 : decode cX5_doHint 104 = .ok (.iload_n 2, 1) := by decide +kernel
theorem dX5_doHint_105 : decode cX5_doHint 105 = .ok (.invokevirtual 129, 3) := by decide +kernel
theorem dX5_doHint_108 : decode cX5_doHint 108 = .ok (.pop, 1) := by decide +kernel
theorem dX5_doHint_109 : decode cX5_doHint 109 = .ok (.aload_n 0, 1) := by decide +kernel
theorem dX5_doHint_110 : decode cX5_doHint 110 = .ok (.getfield 26, 3) := by decide +kernel
theorem dX5_doHint_113 : decode cX5_doHint 113 = .ok (.aload_n 0, 1) := by decide +kernel
theorem dX5_doHint_114 : decode cX5_doHint 114 = .ok (.getfield 10, 3) := by decide +kernel
theorem dX5_doHint_117 : decode cX5_doHint 117 = .ok (.iload_n 1, 1) := by decide +kernel
theorem dX5_doHint_118 : decode cX5_doHint 118 = .ok (.invokevirtual 84, 3) := by decide +kernel
theorem dX5_doHint_121 : decode cX5_doHint 121 = .ok (.iload_n 2, 1) := by decide +kernel
theorem dX5_doHint_122 : decode cX5_doHint 122 = .ok (.invokevirtual 122, 3) := by decide +kernel
theorem dX5_doHint_125 : decode cX5_doHint 125 = .ok (.return_, 1) := by decide +kernel
theorem dX6_init_0 : decode cX6_init 0 = .ok (.aload_n 0, 1) := by decide +kernel
theorem dX6_init_1 : decode cX6_init 1 = .ok (.invokespecial 1, 3) := by decide +kernel
theorem dX6_init_4 : decode cX6_init 4 = .ok (.aload_n 0, 1) := by decide +kernel
theorem dX6_init_5 : decode cX6_init 5 = .ok (.bipush 16, 2) := by decide +kernel
theorem dX6_init_7 : decode cX6_init 7 = .ok (.newarray .int, 2) := by decide +kernel
theorem dX6_init_9 : decode cX6_init 9 = .ok (.putfield 7, 3) := by decide +kernel
theorem dX6_init_12 : decode cX6_init 12 = .ok (.aload_n 0, 1) := by decide +kernel
theorem dX6_init_13 : decode cX6_init 13 = .ok (.bipush 16, 2) := by decide +kernel
theorem dX6_init_15 : decode cX6_init 15 = .ok (.newarray .int, 2) := by decide +kernel
theorem dX6_init_17 : decode cX6_init 17 = .ok (.putfield 13, 3) := by decide +kernel
theorem dX6_init_20 : decode cX6_init 20 = .ok (.aload_n 0, 1) := by decide +kernel
theorem dX6_init_21 : decode cX6_init 21 = .ok (.bipush 16, 2) := by decide +kernel
theorem dX6_init_23 : decode cX6_init 23 = .ok (.newarray .int, 2) := by decide +kernel
theorem dX6_init_25 : decode cX6_init 25 = .ok (.putfield 16, 3) := by decide +kernel
theorem dX6_init_28 : decode cX6_init 28 = .ok (.aload_n 0, 1) := by decide +kernel
theorem dX6_init_29 : decode cX6_init 29 = .ok (.bipush 16, 2) := by decide +kernel
theorem dX6_init_31 : decode cX6_init 31 = .ok (.newarray .int, 2) := by decide +kernel
theorem dX6_init_33 : decode cX6_init 33 = .ok (.putfield 19, 3) := by decide +kernel
theorem dX6_init_36 : decode cX6_init 36 = .ok (.aload_n 0, 1) := by decide +kernel
theorem dX6_init_37 : decode cX6_init 37 = .ok (.bipush 16, 2) := by decide +kernel
theorem dX6_init_39 : decode cX6_init 39 = .ok (.newarray .int, 2) := by decide +kernel
theorem dX6_init_41 : decode cX6_init 41 = .ok (.putfield 22, 3) := by decide +kernel
theorem dX6_init_44 : decode cX6_init 44 = .ok (.aload_n 0, 1) := by decide +kernel
theorem dX6_init_45 : decode cX6_init 45 = .ok (.bipush 12, 2) := by decide +kernel
theorem dX6_init_47 : decode cX6_init 47 = .ok (.newarray .int, 2) := by decide +kernel
theorem dX6_init_49 : decode cX6_init 49 = .ok (.putfield 25, 3) := by decide +kernel
theorem dX6_init_52 : decode cX6_init 52 = .ok (.aload_n 0, 1) := by decide +kernel
theorem dX6_init_53 : decode cX6_init 53 = .ok (.bipush 16, 2) := by decide +kernel
theorem dX6_init_55 : decode cX6_init 55 = .ok (.newarray .int, 2) := by decide +kernel
theorem dX6_init_57 : decode cX6_init 57 = .ok (.putfield 28, 3) := by decide +kernel
theorem dX6_init_60 : decode cX6_init 60 = .ok (.aload_n 0, 1) := by decide +kernel
theorem dX6_init_61 : decode cX6_init 61 = .ok (.bipush 12, 2) := by decide +kernel
theorem dX6_init_63 : decode cX6_init 63 = .ok (.newarray .int, 2) := by decide +kernel
theorem dX6_init_65 : decode cX6_init 65 = .ok (.putfield 31, 3) := by decide +kernel
theorem dX6_init_68 : decode cX6_init 68 = .ok (.aload_n 0, 1) := by decide +kernel
theorem dX6_init_69 : decode cX6_init 69 = .ok (.bipush 12, 2) := by decide +kernel
theorem dX6_init_71 : decode cX6_init 71 = .ok (.newarray .int, 2) := by decide +kernel
theorem dX6_init_73 : decode cX6_init 73 = .ok (.putfield 34, 3) := by decide +kernel
theorem dX6_init_76 : decode cX6_init 76 = .ok (.aload_n 0, 1) := by decide +kernel
theorem dX6_init_77 : decode cX6_init 77 = .ok (.sipush 4096, 3) := by decide +kernel
theorem dX6_init_80 : decode cX6_init 80 = .ok (.newarray .long, 2) := by decide +kernel
theorem dX6_init_82 : decode cX6_init 82 = .ok (.putfield 37, 3) := by decide +kernel
theorem dX6_init_85 : decode cX6_init 85 = .ok (.aload_n 0, 1) := by decide +kernel
theorem dX6_init_86 : decode cX6_init 86 = .ok (.bipush 48, 2) := by decide +kernel
theorem dX6_init_88 : decode cX6_init 88 = .ok (.newarray .int, 2) := by decide +kernel
theorem dX6_init_90 : decode cX6_init 90 = .ok (.putfield 41, 3) := by decide +kernel
theorem dX6_init_93 : decode cX6_init 93 = .ok (.aload_n 0, 1) := by decide +kernel
theorem dX6_init_94 : decode cX6_init 94 = .ok (.bipush 16, 2) := by decide +kernel
theorem dX6_init_96 : decode cX6_init 96 = .ok (.newarray .int, 2) := by decide +kernel
theorem dX6_init_98 : decode cX6_init 98 = .ok (.putfield 44, 3) := by decide +kernel
theorem dX6_init_101 : decode cX6_init 101 = .ok (.aload_n 0, 1) := by decide +kernel
theorem dX6_init_102 : decode cX6_init 102 = .ok (.bipush 6, 2) := by decide +kernel
theorem dX6_init_104 : decode cX6_init 104 = .ok (.newarray .int, 2) := by decide +kernel
theorem dX6_init_106 : decode cX6_init 106 = .ok (.putfield 47, 3) := by decide +kernel
theorem dX6_init_109 : decode cX6_init 109 = .ok (.aload_n 0, 1) := by decide +kernel
theorem dX6_init_110 : decode cX6_init 110 = .ok (.bipush 16, 2) := by decide +kernel
theorem dX6_init_112 : decode cX6_init 112 = .ok (.newarray .int, 2) := by decide +kernel
theorem dX6_init_114 : decode cX6_init 114 = .ok (.putfield 50, 3) := by decide +kernel
theorem dX6_init_117 : decode cX6_init 117 = .ok (.aload_n 0, 1) := by decide +kernel
theorem dX6_init_118 : decode cX6_init 118 = .ok (.bipush 6, 2) := by decide +kernel
theorem dX6_init_120 : decode cX6_init 120 = .ok (.newarray .int, 2) := by decide +kernel
theorem dX6_init_122 : decode cX6_init 122 = .ok (.putfield 53, 3) := by decide +kernel
theorem dX6_init_125 : decode cX6_init 125 = .ok (.aload_n 0, 1) := by decide +kernel
theorem dX6_init_126 : decode cX6_init 126 = .ok (.bipush 16, 2) := by decide +kernel
theorem dX6_init_128 : decode cX6_init 128 = .ok (.newarray .int, 2) := by decide +kernel
theorem dX6_init_130 : decode cX6_init 130 = .ok (.putfield 56, 3) := by decide +kernel
theorem dX6_init_133 : decode cX6_init 133 = .ok (.aload_n 0, 1) := by decide +kernel
theorem dX6_init_134 : decode cX6_init 134 = .ok (.bipush 16, 2) := by decide +kernel
theorem dX6_init_136 : decode cX6_init 136 = .ok (.newarray .int, 2) := by decide +kernel
theorem dX6_init_138 : decode cX6_init 138 = .ok (.putfield 59, 3) := by decide +kernel
theorem dX6_init_141 : decode cX6_init 141 = .ok (.aload_n 0, 1) := by decide +kernel
theorem dX6_init_142 : decode cX6_init 142 = .ok (.bipush 16, 2) := by decide +kernel
theorem dX6_init_144 : decode cX6_init 144 = .ok (.newarray .int, 2) := by decide +kernel
theorem dX6_init_146 : decode cX6_init 146 = .ok (.putfield 62, 3) := by decide +kernel
theorem dX6_init_149 : decode cX6_init 149 = .ok (.aload_n 0, 1) := by decide +kernel
theorem dX6_init_150 : decode cX6_init 150 = .ok (.bipush 16, 2) := by decide +kernel
theorem dX6_init_152 : decode cX6_init 152 = .ok (.newarray .int, 2) := by decide +kernel
theorem dX6_init_154 : decode cX6_init 154 = .ok (.putfield 65, 3) := by decide +kernel
theorem dX6_init_157 : decode cX6_init 157 = .ok (.aload_n 0, 1) := by decide +kernel
theorem dX6_init_158 : decode cX6_init 158 = .ok (.getfield 37, 3) := by decide +kernel
theorem dX6_init_161 : decode cX6_init 161 = .ok (.iconst 0, 1) := by decide +kernel
theorem dX6_init_162 : decode cX6_init 162 = .ok (.lconst 1, 1) := by decide +kernel
theorem dX6_init_163 : decode cX6_init 163 = .ok (.lastore, 1) := by decide +kernel
theorem dX6_init_164 : decode cX6_init 164 = .ok (.return_, 1) := by decide +kernel
theorem dX6_in_0 : decode cX6_in 0 = .ok (.iload_n 0, 1) := by decide +kernel
theorem dX6_in_1 : decode cX6_in 1 = .ok (.iload_n 1, 1) := by decide +kernel
theorem dX6_in_2 : decode cX6_in 2 = .ok (.if_icmp .lt 12, 3) := by decide +kernel
theorem dX6_in_5 : decode cX6_in 5 = .ok (.iload_n 0, 1) := by decide +kernel
theorem dX6_in_6 : decode cX6_in 6 = .ok (.iload_n 2, 1) := by decide +kernel
theorem dX6_in_7 : decode cX6_in 7 = .ok (.if_icmp .gt 7, 3) := by decide +kernel
theorem dX6_in_10 : decode cX6_in 10 = .ok (.iconst 1, 1) := by decide +kernel
theorem dX6_in_11 : decode cX6_in 11 = .ok (.goto 4, 3) := by decide +kernel
theorem dX6_in_14 : decode cX6_in 14 = .ok (.iconst 0, 1) := by decide +kernel
theorem dX6_in_15 : decode cX6_in 15 = .ok (.ireturn, 1) := by decide +kernel
set_option maxRecDepth 20000 in
theorem ggX6_isLine_X6_in : GoodIn wsX6_isLine wsX6_in := goodIn_r _ [5] (by decide +kernel) (by decide +kernel)
set_option maxRecDepth 20000 in
theorem gX6_isLine_X6_in : GoodIn wsX6_isLine (va_wsS RX6 72 yX6_in wsX6_in) := goodIn_app (goodIn_of _ (by decide +kernel)) ggX6_isLine_X6_in
theorem dX6_isLine_0 : decode cX6_isLine 0 = .ok (.iload_n 1, 1) := by decide +kernel
theorem dX6_isLine_1 : decode cX6_isLine 1 = .ok (.iconst 0, 1) := by decide +kernel
theorem dX6_isLine_2 : decode cX6_isLine 2 = .ok (.aload_n 0, 1) := by decide +kernel
theorem dX6_isLine_3 : decode cX6_isLine 3 = .ok (.getfield 68, 3) := by decide +kernel
theorem dX6_isLine_6 : decode cX6_isLine 6 = .ok (.iconst 1, 1) := by decide +kernel
theorem dX6_isLine_7 : decode cX6_isLine 7 = .ok (.isub, 1) := by decide +kernel
theorem dX6_isLine_8 : decode cX6_isLine 8 = .ok (.invokestatic 72, 3) := by decide +kernel
theorem dX6_isLine_11 : decode cX6_isLine 11 = .ok (.ireturn, 1) := by decide +kernel
set_option maxRecDepth 20000 in
theorem ggX6_fits_X6_in : GoodIn wsX6_fits wsX6_in := goodIn_r _ [4] (by decide +kernel) (by decide +kernel)
set_option maxRecDepth 20000 in
theorem gX6_fits_X6_in : GoodIn wsX6_fits (va_wsS RX6 72 yX6_in wsX6_in) := goodIn_app (goodIn_of _ (by decide +kernel)) ggX6_fits_X6_in
theorem dX6_fits_0 : decode cX6_fits 0 = .ok (.iload_n 0, 1) := by decide +kernel
theorem dX6_fits_1 : decode cX6_fits 1 = .ok (.ifCond .eq 22, 3) := by decide +kernel
theorem dX6_fits_4 : decode cX6_fits 4 = .ok (.iload_n 0, 1) := by decide +kernel
theorem dX6_fits_5 : decode cX6_fits 5 = .ok (.iconst 4, 1) := by decide +kernel
theorem dX6_fits_6 : decode cX6_fits 6 = .ok (.if_icmp .eq 17, 3) := by decide +kernel
theorem dX6_fits_9 : decode cX6_fits 9 = .ok (.iload_n 0, 1) := by decide +kernel
theorem dX6_fits_10 : decode cX6_fits 10 = .ok (.iconst 5, 1) := by decide +kernel
theorem dX6_fits_11 : decode cX6_fits 11 = .ok (.if_icmp .eq 12, 3) := by decide +kernel
theorem dX6_fits_14 : decode cX6_fits 14 = .ok (.iload_n 2, 1) := by decide +kernel
theorem dX6_fits_15 : decode cX6_fits 15 = .ok (.iconst 0, 1) := by decide +kernel
theorem dX6_fits_16 : decode cX6_fits 16 = .ok (.iconst 5, 1) := by decide +kernel
theorem dX6_fits_17 : decode cX6_fits 17 = .ok (.invokestatic 72, 3) := by decide +kernel
theorem dX6_fits_20 : decode cX6_fits 20 = .ok (.ifCond .eq 7, 3) := by decide +kernel
theorem dX6_fits_23 : decode cX6_fits 23 = .ok (.iconst 1, 1) := by decide +kernel
theorem dX6_fits_24 : decode cX6_fits 24 = .ok (.goto 4, 3) := by decide +kernel
theorem dX6_fits_27 : decode cX6_fits 27 = .ok (.iconst 0, 1) := by decide +kernel
theorem dX6_fits_28 : decode cX6_fits 28 = .ok (.istore_n 3, 1) := by decide +kernel
theorem dX6_fits_29 : decode cX6_fits 29 = .ok (.iload_n 0, 1) := by decide +kernel
theorem dX6_fits_30 : decode cX6_fits 30 = .ok (.iconst 0, 1) := by decide +kernel
theorem dX6_fits_31 : decode cX6_fits 31 = .ok (.bipush 6, 2) := by decide +kernel
theorem dX6_fits_33 : decode cX6_fits 33 = .ok (.invokestatic 72, 3) := by decide +kernel
theorem dX6_fits_36 : decode cX6_fits 36 = .ok (.ifCond .eq 25, 3) := by decide +kernel
theorem dX6_fits_39 : decode cX6_fits 39 = .ok (.iload_n 3, 1) := by decide +kernel
theorem dX6_fits_40 : decode cX6_fits 40 = .ok (.ifCond .eq 21, 3) := by decide +kernel
theorem dX6_fits_43 : decode cX6_fits 43 = .ok (.iload_n 0, 1) := by decide +kernel
theorem dX6_fits_44 : decode cX6_fits 44 = .ok (.iconst 5, 1) := by decide +kernel
theorem dX6_fits_45 : decode cX6_fits 45 = .ok (.if_icmp .eq 12, 3) := by decide +kernel
theorem dX6_fits_48 : decode cX6_fits 48 = .ok (.iload_n 1, 1) := by decide +kernel
theorem dX6_fits_49 : decode cX6_fits 49 = .ok (.iconst 0, 1) := by decide +kernel
theorem dX6_fits_50 : decode cX6_fits 50 = .ok (.iconst 5, 1) := by decide +kernel
theorem dX6_fits_51 : decode cX6_fits 51 = .ok (.invokestatic 72, 3) := by decide +kernel
theorem dX6_fits_54 : decode cX6_fits 54 = .ok (.ifCond .eq 7, 3) := by decide +kernel
theorem dX6_fits_57 : decode cX6_fits 57 = .ok (.iconst 1, 1) := by decide +kernel
theorem dX6_fits_58 : decode cX6_fits 58 = .ok (.goto 4, 3) := by decide +kernel
theorem dX6_fits_61 : decode cX6_fits 61 = .ok (.iconst 0, 1) := by decide +kernel
theorem dX6_fits_62 : decode cX6_fits 62 = .ok (.ireturn, 1) := by decide +kernel
theorem dX6_come_0 : decode cX6_come 0 = .ok (.aload_n 0, 1) := by decide +kernel
theorem dX6_come_1 : decode cX6_come 1 = .ok (.getfield 7, 3) := by decide +kernel
theorem dX6_come_4 : decode cX6_come 4 = .ok (.aload_n 0, 1) := by decide +kernel
theorem dX6_come_5 : decode cX6_come 5 = .ok (.getfield 68, 3) := by decide +kernel
theorem dX6_come_8 : decode cX6_come 8 = .ok (.iload_n 1, 1) := by decide +kernel
theorem dX6_come_9 : decode cX6_come 9 = .ok (.iastore, 1) := by decide +kernel
theorem dX6_come_10 : decode cX6_come 10 = .ok (.aload_n 0, 1) := by decide +kernel
theorem dX6_come_11 : decode cX6_come 11 = .ok (.getfield 13, 3) := by decide +kernel
theorem dX6_come_14 : decode cX6_come 14 = .ok (.aload_n 0, 1) := by decide +kernel
theorem dX6_come_15 : decode cX6_come 15 = .ok (.getfield 68, 3) := by decide +kernel
theorem dX6_come_18 : decode cX6_come 18 = .ok (.iload_n 2, 1) := by decide +kernel
theorem dX6_come_19 : decode cX6_come 19 = .ok (.iastore, 1) := by decide +kernel
theorem dX6_come_20 : decode cX6_come 20 = .ok (.aload_n 0, 1) := by decide +kernel
theorem dX6_come_21 : decode cX6_come 21 = .ok (.getfield 16, 3) := by decide +kernel
theorem dX6_come_24 : decode cX6_come 24 = .ok (.aload_n 0, 1) := by decide +kernel
theorem dX6_come_25 : decode cX6_come 25 = .ok (.getfield 68, 3) := by decide +kernel
theorem dX6_come_28 : decode cX6_come 28 = .ok (.iload_n 3, 1) := by decide +kernel
theorem dX6_come_29 : decode cX6_come 29 = .ok (.iastore, 1) := by decide +kernel
theorem dX6_come_30 : decode cX6_come 30 = .ok (.aload_n 0, 1) := by decide +kernel
theorem dX6_come_31 : decode cX6_come 31 = .ok (.getfield 19, 3) := by decide +kernel
theorem dX6_come_34 : decode cX6_come 34 = .ok (.aload_n 0, 1) := by decide +kernel
theorem dX6_come_35 : decode cX6_come 35 = .ok (.getfield 68, 3) := by decide +kernel
theorem dX6_come_38 : decode cX6_come 38 = .ok (.iload 4, 2) := by decide +kernel
theorem dX6_come_40 : decode cX6_come 40 = .ok (.iastore, 1) := by decide +kernel
theorem dX6_come_41 : decode cX6_come 41 = .ok (.aload_n 0, 1) := by decide +kernel
theorem dX6_come_42 : decode cX6_come 42 = .ok (.getfield 22, 3) := by decide +kernel
theorem dX6_come_45 : decode cX6_come 45 = .ok (.aload_n 0, 1) := by decide +kernel
theorem dX6_come_46 : decode cX6_come 46 = .ok (.getfield 68, 3) := by decide +kernel
theorem dX6_come_49 : decode cX6_come 49 = .ok (.iconst (-1), 1) := by decide +kernel
theorem dX6_come_50 : decode cX6_come 50 = .ok (.iastore, 1) := by decide +kernel
theorem dX6_come_51 : decode cX6_come 51 = .ok (.aload_n 0, 1) := by decide +kernel
theorem dX6_come_52 : decode cX6_come 52 = .ok (.dup, 1) := by decide +kernel
theorem dX6_come_53 : decode cX6_come 53 = .ok (.getfield 68, 3) := by decide +kernel
theorem dX6_come_56 : decode cX6_come 56 = .ok (.iconst 1, 1) := by decide +kernel
theorem dX6_come_57 : decode cX6_come 57 = .ok (.iadd, 1) := by decide +kernel
theorem dX6_come_58 : decode cX6_come 58 = .ok (.putfield 68, 3) := by decide +kernel
theorem dX6_come_61 : decode cX6_come 61 = .ok (.aload_n 0, 1) := by decide +kernel
theorem dX6_come_62 : decode cX6_come 62 = .ok (.getfield 68, 3) := by decide +kernel
theorem dX6_come_65 : decode cX6_come 65 = .ok (.iconst 1, 1) := by decide +kernel
theorem dX6_come_66 : decode cX6_come 66 = .ok (.isub, 1) := by decide +kernel
theorem dX6_come_67 : decode cX6_come 67 = .ok (.ireturn, 1) := by decide +kernel
set_option maxRecDepth 20000 in
theorem ggX6_line_X6_fits : GoodIn wsX6_line wsX6_fits := goodIn_r _ [9, 10, 11, 8, 12] (by decide +kernel) (by decide +kernel)
set_option maxRecDepth 20000 in
theorem gX6_line_X6_fits : GoodIn wsX6_line (va_wsS RX6 76 yX6_fits wsX6_fits) := goodIn_app (goodIn_of _ (by decide +kernel)) ggX6_line_X6_fits
set_option maxRecDepth 20000 in
theorem ggX6_line_X6_come : GoodIn wsX6_line wsX6_come := goodIn_r _ [16, 17, 2, 18, 19, 20, 21, 39, 40, 41, 42, 43, 44, 45, 46, 47, 48, 49, 50, 51, 52, 53, 54, 55, 56, 57, 58, 59, 60, 61, 62, 63, 64, 65, 66, 67, 68, 69, 70, 71] (by decide +kernel) (by decide +kernel)
set_option maxRecDepth 20000 in
theorem gX6_line_X6_come : GoodIn wsX6_line (wsV RX6 85 RX6 yX6_come wsX6_come) := goodIn_app (goodIn_of _ (by decide +kernel)) ggX6_line_X6_come
set_option maxRecDepth 20000 in
theorem ggX6_line_X6_relate : GoodIn wsX6_line wsX6_relate := goodIn_r _ [25, 3, 26, 4, 27, 28, 29, 30, 31, 8, 32, 17, 18, 19, 33, 34, 35, 36, 37, 38, 39, 40, 41, 42, 43, 44, 45, 46, 47, 48, 49, 50, 51, 52, 53, 54, 55, 56, 57, 58, 59, 60, 61, 62, 63, 64, 65, 66, 67, 68, 69, 70, 71] (by decide +kernel) (by decide +kernel)
set_option maxRecDepth 20000 in
theorem gX6_line_X6_relate : GoodIn wsX6_line (wsV RX6 89 RX6 yX6_relate wsX6_relate) := goodIn_app (goodIn_of _ (by decide +kernel)) ggX6_line_X6_relate
theorem dX6_line_0 : decode cX6_line 0 = .ok (.iload_n 1, 1) := by decide +kernel
theorem dX6_line_1 : decode cX6_line 1 = .ok (.iload_n 2, 1) := by decide +kernel
theorem dX6_line_2 : decode cX6_line 2 = .ok (.iload_n 3, 1) := by decide +kernel
theorem dX6_line_3 : decode cX6_line 3 = .ok (.invokestatic 76, 3) := by decide +kernel
theorem dX6_line_6 : decode cX6_line 6 = .ok (.ifCond .ne 6, 3) := by decide +kernel
theorem dX6_line_9 : decode cX6_line 9 = .ok (.bipush (-102), 2) := by decide +kernel
theorem dX6_line_11 : decode cX6_line 11 = .ok (.ireturn, 1) := by decide +kernel
theorem dX6_line_12 : decode cX6_line 12 = .ok (.aload_n 0, 1) := by decide +kernel
theorem dX6_line_13 : decode cX6_line 13 = .ok (.getfield 79, 3) := by decide +kernel
theorem dX6_line_16 : decode cX6_line 16 = .ok (.ifCond .le 6, 3) := by decide +kernel
theorem dX6_line_19 : decode cX6_line 19 = .ok (.bipush (-103), 2) := by decide +kernel
theorem dX6_line_21 : decode cX6_line 21 = .ok (.ireturn, 1) := by decide +kernel
theorem dX6_line_22 : decode cX6_line 22 = .ok (.aload_n 0, 1) := by decide +kernel
theorem dX6_line_23 : decode cX6_line 23 = .ok (.getfield 68, 3) := by decide +kernel
theorem dX6_line_26 : decode cX6_line 26 = .ok (.bipush 16, 2) := by decide +kernel
theorem dX6_line_28 : decode cX6_line 28 = .ok (.if_icmp .eq 12, 3) := by decide +kernel
theorem dX6_line_31 : decode cX6_line 31 = .ok (.aload_n 0, 1) := by decide +kernel
theorem dX6_line_32 : decode cX6_line 32 = .ok (.getfield 82, 3) := by decide +kernel
theorem dX6_line_35 : decode cX6_line 35 = .ok (.bipush 12, 2) := by decide +kernel
theorem dX6_line_37 : decode cX6_line 37 = .ok (.if_icmp .ne 6, 3) := by decide +kernel
theorem dX6_line_40 : decode cX6_line 40 = .ok (.bipush (-104), 2) := by decide +kernel
theorem dX6_line_42 : decode cX6_line 42 = .ok (.ireturn, 1) := by decide +kernel
theorem dX6_line_43 : decode cX6_line 43 = .ok (.aload_n 0, 1) := by decide +kernel
theorem dX6_line_44 : decode cX6_line 44 = .ok (.iload_n 1, 1) := by decide +kernel
theorem dX6_line_45 : decode cX6_line 45 = .ok (.iload_n 2, 1) := by decide +kernel
theorem dX6_line_46 : decode cX6_line 46 = .ok (.iload_n 3, 1) := by decide +kernel
theorem dX6_line_47 : decode cX6_line 47 = .ok (.iconst 0, 1) := by decide +kernel
theorem dX6_line_48 : decode cX6_line 48 = .ok (.invokevirtual 85, 3) := by decide +kernel
theorem dX6_line_51 : decode cX6_line 51 = .ok (.istore 4, 2) := by decide +kernel
theorem dX6_line_53 : decode cX6_line 53 = .ok (.aload_n 0, 1) := by decide +kernel
theorem dX6_line_54 : decode cX6_line 54 = .ok (.getfield 25, 3) := by decide +kernel
theorem dX6_line_57 : decode cX6_line 57 = .ok (.aload_n 0, 1) := by decide +kernel
theorem dX6_line_58 : decode cX6_line 58 = .ok (.getfield 82, 3) := by decide +kernel
theorem dX6_line_61 : decode cX6_line 61 = .ok (.iload 4, 2) := by decide +kernel
theorem dX6_line_63 : decode cX6_line 63 = .ok (.iastore, 1) := by decide +kernel
theorem dX6_line_64 : decode cX6_line 64 = .ok (.aload_n 0, 1) := by decide +kernel
theorem dX6_line_65 : decode cX6_line 65 = .ok (.getfield 28, 3) := by decide +kernel
theorem dX6_line_68 : decode cX6_line 68 = .ok (.iload 4, 2) := by decide +kernel
theorem dX6_line_70 : decode cX6_line 70 = .ok (.aload_n 0, 1) := by decide +kernel
theorem dX6_line_71 : decode cX6_line 71 = .ok (.getfield 82, 3) := by decide +kernel
theorem dX6_line_74 : decode cX6_line 74 = .ok (.iastore, 1) := by decide +kernel
theorem dX6_line_75 : decode cX6_line 75 = .ok (.aload_n 0, 1) := by decide +kernel
theorem dX6_line_76 : decode cX6_line 76 = .ok (.dup, 1) := by decide +kernel
theorem dX6_line_77 : decode cX6_line 77 = .ok (.getfield 82, 3) := by decide +kernel
theorem dX6_line_80 : decode cX6_line 80 = .ok (.iconst 1, 1) := by decide +kernel
theorem dX6_line_81 : decode cX6_line 81 = .ok (.iadd, 1) := by decide +kernel
theorem dX6_line_82 : decode cX6_line 82 = .ok (.putfield 82, 3) := by decide +kernel
theorem dX6_line_85 : decode cX6_line 85 = .ok (.aload_n 0, 1) := by decide +kernel
theorem dX6_line_86 : decode cX6_line 86 = .ok (.invokevirtual 89, 3) := by decide +kernel
theorem dX6_line_89 : decode cX6_line 89 = .ok (.iload 4, 2) := by decide +kernel
theorem dX6_line_91 : decode cX6_line 91 = .ok (.ireturn, 1) := by decide +kernel
set_option maxRecDepth 20000 in
theorem ggX6_decoy_X6_fits : GoodIn wsX6_decoy wsX6_fits := goodIn_r _ [6, 7, 8, 5, 9] (by decide +kernel) (by decide +kernel)
set_option maxRecDepth 20000 in
theorem gX6_decoy_X6_fits : GoodIn wsX6_decoy (va_wsS RX6 76 yX6_fits wsX6_fits) := goodIn_app (goodIn_of _ (by decide +kernel)) ggX6_decoy_X6_fits
set_option maxRecDepth 20000 in
theorem ggX6_decoy_X6_come : GoodIn wsX6_decoy wsX6_come := goodIn_r _ [13, 14, 2, 15, 16, 17, 18, 19, 20, 21, 22, 23, 24, 25, 26, 27, 28, 29, 30, 31, 32, 33, 34, 35, 36, 37, 38, 39, 40, 41, 42, 43, 44, 45, 46, 47, 48, 49, 50, 51] (by decide +kernel) (by decide +kernel)
set_option maxRecDepth 20000 in
theorem gX6_decoy_X6_come : GoodIn wsX6_decoy (wsV RX6 85 RX6 yX6_come wsX6_come) := goodIn_app (goodIn_of _ (by decide +kernel)) ggX6_decoy_X6_come
theorem dX6_decoy_0 : decode cX6_decoy 0 = .ok (.iload_n 1, 1) := by decide +kernel
theorem dX6_decoy_1 : decode cX6_decoy 1 = .ok (.iload_n 2, 1) := by decide +kernel
theorem dX6_decoy_2 : decode cX6_decoy 2 = .ok (.iload_n 3, 1) := by decide +kernel
theorem dX6_decoy_3 : decode cX6_decoy 3 = .ok (.invokestatic 76, 3) := by decide +kernel
theorem dX6_decoy_6 : decode cX6_decoy 6 = .ok (.ifCond .ne 6, 3) := by decide +kernel
theorem dX6_decoy_9 : decode cX6_decoy 9 = .ok (.bipush (-102), 2) := by decide +kernel
theorem dX6_decoy_11 : decode cX6_decoy 11 = .ok (.ireturn, 1) := by decide +kernel
theorem dX6_decoy_12 : decode cX6_decoy 12 = .ok (.aload_n 0, 1) := by decide +kernel
theorem dX6_decoy_13 : decode cX6_decoy 13 = .ok (.getfield 79, 3) := by decide +kernel
theorem dX6_decoy_16 : decode cX6_decoy 16 = .ok (.ifCond .le 6, 3) := by decide +kernel
theorem dX6_decoy_19 : decode cX6_decoy 19 = .ok (.bipush (-103), 2) := by decide +kernel
theorem dX6_decoy_21 : decode cX6_decoy 21 = .ok (.ireturn, 1) := by decide +kernel
theorem dX6_decoy_22 : decode cX6_decoy 22 = .ok (.aload_n 0, 1) := by decide +kernel
theorem dX6_decoy_23 : decode cX6_decoy 23 = .ok (.getfield 68, 3) := by decide +kernel
theorem dX6_decoy_26 : decode cX6_decoy 26 = .ok (.bipush 16, 2) := by decide +kernel
theorem dX6_decoy_28 : decode cX6_decoy 28 = .ok (.if_icmp .ne 8, 3) := by decide +kernel
theorem dX6_decoy_31 : decode cX6_decoy 31 = .ok (.bipush (-104), 2) := by decide +kernel
theorem dX6_decoy_33 : decode cX6_decoy 33 = .ok (.goto 11, 3) := by decide +kernel
theorem dX6_decoy_36 : decode cX6_decoy 36 = .ok (.aload_n 0, 1) := by decide +kernel
theorem dX6_decoy_37 : decode cX6_decoy 37 = .ok (.iload_n 1, 1) := by decide +kernel
