theorem dX6_decoy_38 : decode cX6_decoy 38 = .ok (.iload_n 2, 1) := by decide +kernel
theorem dX6_decoy_39 : decode cX6_decoy 39 = .ok (.iload_n 3, 1) := by decide +kernel
theorem dX6_decoy_40 : decode cX6_decoy 40 = .ok (.iconst 1, 1) := by decide +kernel
theorem dX6_decoy_41 : decode cX6_decoy 41 = .ok (.invokevirtual 85, 3) := by decide +kernel
theorem dX6_decoy_44 : decode cX6_decoy 44 = .ok (.ireturn, 1) := by decide +kernel
set_option maxRecDepth 20000 in
theorem ggX6_wrong_X6_isLine : GoodIn wsX6_wrong wsX6_isLine := goodIn_r _ [9, 4, 10, 11, 8, 12, 23, 24, 25, 26, 27, 28, 29, 30, 31, 32, 33, 34, 35, 36, 37, 38, 39, 40, 41, 42, 43, 44, 45, 46, 47, 48, 49, 50, 51, 52, 53, 54, 55] (by decide +kernel) (by decide +kernel)
set_option maxRecDepth 20000 in
theorem gX6_wrong_X6_isLine : GoodIn wsX6_wrong (wsV RX6 92 RX6 yX6_isLine wsX6_isLine) := goodIn_app (goodIn_of _ (by decide +kernel)) ggX6_wrong_X6_isLine
set_option maxRecDepth 20000 in
theorem ggX6_wrong_X6_fits : GoodIn wsX6_wrong wsX6_fits := goodIn_r _ [15, 10, 11, 8, 12] (by decide +kernel) (by decide +kernel)
set_option maxRecDepth 20000 in
theorem gX6_wrong_X6_fits : GoodIn wsX6_wrong (va_wsS RX6 76 yX6_fits wsX6_fits) := goodIn_app (goodIn_of _ (by decide +kernel)) ggX6_wrong_X6_fits
set_option maxRecDepth 20000 in
theorem ggX6_wrong_X6_come : GoodIn wsX6_wrong wsX6_come := goodIn_r _ [19, 20, 4, 21, 22, 2, 3, 23, 24, 25, 26, 27, 28, 29, 30, 31, 32, 33, 34, 35, 36, 37, 38, 39, 40, 41, 42, 43, 44, 45, 46, 47, 48, 49, 50, 51, 52, 53, 54, 55] (by decide +kernel) (by decide +kernel)
set_option maxRecDepth 20000 in
theorem gX6_wrong_X6_come : GoodIn wsX6_wrong (wsV RX6 85 RX6 yX6_come wsX6_come) := goodIn_app (goodIn_of _ (by decide +kernel)) ggX6_wrong_X6_come
theorem dX6_wrong_0 : decode cX6_wrong 0 = .ok (.aload_n 0, 1) := by decide +kernel
theorem dX6_wrong_1 : decode cX6_wrong 1 = .ok (.iload_n 1, 1) := by decide +kernel
theorem dX6_wrong_2 : decode cX6_wrong 2 = .ok (.invokevirtual 92, 3) := by decide +kernel
theorem dX6_wrong_5 : decode cX6_wrong 5 = .ok (.ifCond .ne 6, 3) := by decide +kernel
theorem dX6_wrong_8 : decode cX6_wrong 8 = .ok (.bipush (-101), 2) := by decide +kernel
theorem dX6_wrong_10 : decode cX6_wrong 10 = .ok (.ireturn, 1) := by decide +kernel
theorem dX6_wrong_11 : decode cX6_wrong 11 = .ok (.iload_n 2, 1) := by decide +kernel
theorem dX6_wrong_12 : decode cX6_wrong 12 = .ok (.iload_n 3, 1) := by decide +kernel
theorem dX6_wrong_13 : decode cX6_wrong 13 = .ok (.iload 4, 2) := by decide +kernel
theorem dX6_wrong_15 : decode cX6_wrong 15 = .ok (.invokestatic 76, 3) := by decide +kernel
theorem dX6_wrong_18 : decode cX6_wrong 18 = .ok (.ifCond .ne 6, 3) := by decide +kernel
theorem dX6_wrong_21 : decode cX6_wrong 21 = .ok (.bipush (-102), 2) := by decide +kernel
theorem dX6_wrong_23 : decode cX6_wrong 23 = .ok (.ireturn, 1) := by decide +kernel
theorem dX6_wrong_24 : decode cX6_wrong 24 = .ok (.aload_n 0, 1) := by decide +kernel
theorem dX6_wrong_25 : decode cX6_wrong 25 = .ok (.getfield 79, 3) := by decide +kernel
theorem dX6_wrong_28 : decode cX6_wrong 28 = .ok (.ifCond .gt 22, 3) := by decide +kernel
theorem dX6_wrong_31 : decode cX6_wrong 31 = .ok (.aload_n 0, 1) := by decide +kernel
theorem dX6_wrong_32 : decode cX6_wrong 32 = .ok (.getfield 19, 3) := by decide +kernel
theorem dX6_wrong_35 : decode cX6_wrong 35 = .ok (.iload_n 1, 1) := by decide +kernel
theorem dX6_wrong_36 : decode cX6_wrong 36 = .ok (.iaload, 1) := by decide +kernel
theorem dX6_wrong_37 : decode cX6_wrong 37 = .ok (.ifCond .ne 13, 3) := by decide +kernel
theorem dX6_wrong_40 : decode cX6_wrong 40 = .ok (.aload_n 0, 1) := by decide +kernel
theorem dX6_wrong_41 : decode cX6_wrong 41 = .ok (.getfield 22, 3) := by decide +kernel
theorem dX6_wrong_44 : decode cX6_wrong 44 = .ok (.iload_n 1, 1) := by decide +kernel
theorem dX6_wrong_45 : decode cX6_wrong 45 = .ok (.iaload, 1) := by decide +kernel
theorem dX6_wrong_46 : decode cX6_wrong 46 = .ok (.iconst (-1), 1) := by decide +kernel
theorem dX6_wrong_47 : decode cX6_wrong 47 = .ok (.if_icmp .eq 6, 3) := by decide +kernel
theorem dX6_wrong_50 : decode cX6_wrong 50 = .ok (.bipush (-103), 2) := by decide +kernel
theorem dX6_wrong_52 : decode cX6_wrong 52 = .ok (.ireturn, 1) := by decide +kernel
theorem dX6_wrong_53 : decode cX6_wrong 53 = .ok (.aload_n 0, 1) := by decide +kernel
theorem dX6_wrong_54 : decode cX6_wrong 54 = .ok (.getfield 68, 3) := by decide +kernel
theorem dX6_wrong_57 : decode cX6_wrong 57 = .ok (.bipush 16, 2) := by decide +kernel
theorem dX6_wrong_59 : decode cX6_wrong 59 = .ok (.if_icmp .ne 6, 3) := by decide +kernel
theorem dX6_wrong_62 : decode cX6_wrong 62 = .ok (.bipush (-104), 2) := by decide +kernel
theorem dX6_wrong_64 : decode cX6_wrong 64 = .ok (.ireturn, 1) := by decide +kernel
theorem dX6_wrong_65 : decode cX6_wrong 65 = .ok (.aload_n 0, 1) := by decide +kernel
theorem dX6_wrong_66 : decode cX6_wrong 66 = .ok (.iload_n 2, 1) := by decide +kernel
theorem dX6_wrong_67 : decode cX6_wrong 67 = .ok (.iload_n 3, 1) := by decide +kernel
theorem dX6_wrong_68 : decode cX6_wrong 68 = .ok (.iload 4, 2) := by decide +kernel
theorem dX6_wrong_70 : decode cX6_wrong 70 = .ok (.iconst 2, 1) := by decide +kernel
theorem dX6_wrong_71 : decode cX6_wrong 71 = .ok (.invokevirtual 85, 3) := by decide +kernel
theorem dX6_wrong_74 : decode cX6_wrong 74 = .ok (.istore 5, 2) := by decide +kernel
theorem dX6_wrong_76 : decode cX6_wrong 76 = .ok (.aload_n 0, 1) := by decide +kernel
theorem dX6_wrong_77 : decode cX6_wrong 77 = .ok (.getfield 22, 3) := by decide +kernel
theorem dX6_wrong_80 : decode cX6_wrong 80 = .ok (.iload 5, 2) := by decide +kernel
theorem dX6_wrong_82 : decode cX6_wrong 82 = .ok (.iload_n 1, 1) := by decide +kernel
theorem dX6_wrong_83 : decode cX6_wrong 83 = .ok (.iastore, 1) := by decide +kernel
theorem dX6_wrong_84 : decode cX6_wrong 84 = .ok (.aload_n 0, 1) := by decide +kernel
theorem dX6_wrong_85 : decode cX6_wrong 85 = .ok (.getfield 22, 3) := by decide +kernel
theorem dX6_wrong_88 : decode cX6_wrong 88 = .ok (.iload_n 1, 1) := by decide +kernel
theorem dX6_wrong_89 : decode cX6_wrong 89 = .ok (.iload 5, 2) := by decide +kernel
theorem dX6_wrong_91 : decode cX6_wrong 91 = .ok (.iastore, 1) := by decide +kernel
theorem dX6_wrong_92 : decode cX6_wrong 92 = .ok (.iload 5, 2) := by decide +kernel
theorem dX6_wrong_94 : decode cX6_wrong 94 = .ok (.ireturn, 1) := by decide +kernel
theorem dX6_input_0 : decode cX6_input 0 = .ok (.aload_n 0, 1) := by decide +kernel
theorem dX6_input_1 : decode cX6_input 1 = .ok (.getfield 79, 3) := by decide +kernel
theorem dX6_input_4 : decode cX6_input 4 = .ok (.ifCond .le 6, 3) := by decide +kernel
theorem dX6_input_7 : decode cX6_input 7 = .ok (.bipush (-103), 2) := by decide +kernel
theorem dX6_input_9 : decode cX6_input 9 = .ok (.ireturn, 1) := by decide +kernel
theorem dX6_input_10 : decode cX6_input 10 = .ok (.aload_n 0, 1) := by decide +kernel
theorem dX6_input_11 : decode cX6_input 11 = .ok (.getfield 96, 3) := by decide +kernel
theorem dX6_input_14 : decode cX6_input 14 = .ok (.bipush 8, 2) := by decide +kernel
theorem dX6_input_16 : decode cX6_input 16 = .ok (.if_icmp .ne 6, 3) := by decide +kernel
theorem dX6_input_19 : decode cX6_input 19 = .ok (.bipush (-104), 2) := by decide +kernel
theorem dX6_input_21 : decode cX6_input 21 = .ok (.ireturn, 1) := by decide +kernel
theorem dX6_input_22 : decode cX6_input 22 = .ok (.bipush 6, 2) := by decide +kernel
theorem dX6_input_24 : decode cX6_input 24 = .ok (.aload_n 0, 1) := by decide +kernel
theorem dX6_input_25 : decode cX6_input 25 = .ok (.getfield 96, 3) := by decide +kernel
theorem dX6_input_28 : decode cX6_input 28 = .ok (.imul, 1) := by decide +kernel
theorem dX6_input_29 : decode cX6_input 29 = .ok (.istore 7, 2) := by decide +kernel
theorem dX6_input_31 : decode cX6_input 31 = .ok (.aload_n 0, 1) := by decide +kernel
theorem dX6_input_32 : decode cX6_input 32 = .ok (.getfield 41, 3) := by decide +kernel
theorem dX6_input_35 : decode cX6_input 35 = .ok (.iload 7, 2) := by decide +kernel
theorem dX6_input_37 : decode cX6_input 37 = .ok (.iload_n 1, 1) := by decide +kernel
theorem dX6_input_38 : decode cX6_input 38 = .ok (.iastore, 1) := by decide +kernel
theorem dX6_input_39 : decode cX6_input 39 = .ok (.aload_n 0, 1) := by decide +kernel
theorem dX6_input_40 : decode cX6_input 40 = .ok (.getfield 41, 3) := by decide +kernel
theorem dX6_input_43 : decode cX6_input 43 = .ok (.iload 7, 2) := by decide +kernel
theorem dX6_input_45 : decode cX6_input 45 = .ok (.iconst 1, 1) := by decide +kernel
theorem dX6_input_46 : decode cX6_input 46 = .ok (.iadd, 1) := by decide +kernel
theorem dX6_input_47 : decode cX6_input 47 = .ok (.iload_n 2, 1) := by decide +kernel
theorem dX6_input_48 : decode cX6_input 48 = .ok (.iastore, 1) := by decide +kernel
theorem dX6_input_49 : decode cX6_input 49 = .ok (.aload_n 0, 1) := by decide +kernel
theorem dX6_input_50 : decode cX6_input 50 = .ok (.getfield 41, 3) := by decide +kernel
theorem dX6_input_53 : decode cX6_input 53 = .ok (.iload 7, 2) := by decide +kernel
theorem dX6_input_55 : decode cX6_input 55 = .ok (.iconst 2, 1) := by decide +kernel
theorem dX6_input_56 : decode cX6_input 56 = .ok (.iadd, 1) := by decide +kernel
theorem dX6_input_57 : decode cX6_input 57 = .ok (.iload_n 3, 1) := by decide +kernel
theorem dX6_input_58 : decode cX6_input 58 = .ok (.iastore, 1) := by decide +kernel
theorem dX6_input_59 : decode cX6_input 59 = .ok (.aload_n 0, 1) := by decide +kernel
theorem dX6_input_60 : decode cX6_input 60 = .ok (.getfield 41, 3) := by decide +kernel
theorem dX6_input_63 : decode cX6_input 63 = .ok (.iload 7, 2) := by decide +kernel
theorem dX6_input_65 : decode cX6_input 65 = .ok (.iconst 3, 1) := by decide +kernel
theorem dX6_input_66 : decode cX6_input 66 = .ok (.iadd, 1) := by decide +kernel
theorem dX6_input_67 : decode cX6_input 67 = .ok (.iload 4, 2) := by decide +kernel
theorem dX6_input_69 : decode cX6_input 69 = .ok (.iastore, 1) := by decide +kernel
theorem dX6_input_70 : decode cX6_input 70 = .ok (.aload_n 0, 1) := by decide +kernel
theorem dX6_input_71 : decode cX6_input 71 = .ok (.getfield 41, 3) := by decide +kernel
theorem dX6_input_74 : decode cX6_input 74 = .ok (.iload 7, 2) := by decide +kernel
theorem dX6_input_76 : decode cX6_input 76 = .ok (.iconst 4, 1) := by decide +kernel
theorem dX6_input_77 : decode cX6_input 77 = .ok (.iadd, 1) := by decide +kernel
theorem dX6_input_78 : decode cX6_input 78 = .ok (.iload 5, 2) := by decide +kernel
theorem dX6_input_80 : decode cX6_input 80 = .ok (.iastore, 1) := by decide +kernel
theorem dX6_input_81 : decode cX6_input 81 = .ok (.aload_n 0, 1) := by decide +kernel
theorem dX6_input_82 : decode cX6_input 82 = .ok (.getfield 41, 3) := by decide +kernel
theorem dX6_input_85 : decode cX6_input 85 = .ok (.iload 7, 2) := by decide +kernel
theorem dX6_input_87 : decode cX6_input 87 = .ok (.iconst 5, 1) := by decide +kernel
theorem dX6_input_88 : decode cX6_input 88 = .ok (.iadd, 1) := by decide +kernel
theorem dX6_input_89 : decode cX6_input 89 = .ok (.iload 6, 2) := by decide +kernel
theorem dX6_input_91 : decode cX6_input 91 = .ok (.iastore, 1) := by decide +kernel
theorem dX6_input_92 : decode cX6_input 92 = .ok (.aload_n 0, 1) := by decide +kernel
theorem dX6_input_93 : decode cX6_input 93 = .ok (.dup, 1) := by decide +kernel
theorem dX6_input_94 : decode cX6_input 94 = .ok (.getfield 96, 3) := by decide +kernel
theorem dX6_input_97 : decode cX6_input 97 = .ok (.iconst 1, 1) := by decide +kernel
theorem dX6_input_98 : decode cX6_input 98 = .ok (.iadd, 1) := by decide +kernel
theorem dX6_input_99 : decode cX6_input 99 = .ok (.putfield 96, 3) := by decide +kernel
theorem dX6_input_102 : decode cX6_input 102 = .ok (.aload_n 0, 1) := by decide +kernel
theorem dX6_input_103 : decode cX6_input 103 = .ok (.getfield 96, 3) := by decide +kernel
theorem dX6_input_106 : decode cX6_input 106 = .ok (.iconst 1, 1) := by decide +kernel
theorem dX6_input_107 : decode cX6_input 107 = .ok (.isub, 1) := by decide +kernel
theorem dX6_input_108 : decode cX6_input 108 = .ok (.ireturn, 1) := by decide +kernel
set_option maxRecDepth 20000 in
theorem ggX6_wipe_X6_relate : GoodIn wsX6_wipe wsX6_relate := goodIn_r _ [11, 2, 12, 13, 14, 15, 16, 17, 18, 10, 19, 20, 21, 22, 23, 24, 25, 26, 27, 28, 29, 30, 31, 32, 33, 34, 35, 36, 37, 38, 39, 40, 41, 42, 43, 44, 45, 46, 47, 48, 49, 50, 51, 52, 53, 54, 55, 56, 57, 58, 59, 60, 61] (by decide +kernel) (by decide +kernel)
set_option maxRecDepth 20000 in
theorem gX6_wipe_X6_relate : GoodIn wsX6_wipe (wsV RX6 89 RX6 yX6_relate wsX6_relate) := goodIn_app (goodIn_of _ (by decide +kernel)) ggX6_wipe_X6_relate
theorem dX6_wipe_0 : decode cX6_wipe 0 = .ok (.aload_n 0, 1) := by decide +kernel
theorem dX6_wipe_1 : decode cX6_wipe 1 = .ok (.getfield 68, 3) := by decide +kernel
theorem dX6_wipe_4 : decode cX6_wipe 4 = .ok (.istore_n 1, 1) := by decide +kernel
theorem dX6_wipe_5 : decode cX6_wipe 5 = .ok (.aload_n 0, 1) := by decide +kernel
theorem dX6_wipe_6 : decode cX6_wipe 6 = .ok (.iconst 0, 1) := by decide +kernel
theorem dX6_wipe_7 : decode cX6_wipe 7 = .ok (.putfield 68, 3) := by decide +kernel
theorem dX6_wipe_10 : decode cX6_wipe 10 = .ok (.aload_n 0, 1) := by decide +kernel
theorem dX6_wipe_11 : decode cX6_wipe 11 = .ok (.iconst 0, 1) := by decide +kernel
theorem dX6_wipe_12 : decode cX6_wipe 12 = .ok (.putfield 82, 3) := by decide +kernel
theorem dX6_wipe_15 : decode cX6_wipe 15 = .ok (.aload_n 0, 1) := by decide +kernel
theorem dX6_wipe_16 : decode cX6_wipe 16 = .ok (.iconst 0, 1) := by decide +kernel
theorem dX6_wipe_17 : decode cX6_wipe 17 = .ok (.putfield 96, 3) := by decide +kernel
theorem dX6_wipe_20 : decode cX6_wipe 20 = .ok (.aload_n 0, 1) := by decide +kernel
theorem dX6_wipe_21 : decode cX6_wipe 21 = .ok (.iconst 0, 1) := by decide +kernel
theorem dX6_wipe_22 : decode cX6_wipe 22 = .ok (.putfield 79, 3) := by decide +kernel
theorem dX6_wipe_25 : decode cX6_wipe 25 = .ok (.aload_n 0, 1) := by decide +kernel
theorem dX6_wipe_26 : decode cX6_wipe 26 = .ok (.iconst 0, 1) := by decide +kernel
theorem dX6_wipe_27 : decode cX6_wipe 27 = .ok (.putfield 99, 3) := by decide +kernel
theorem dX6_wipe_30 : decode cX6_wipe 30 = .ok (.aload_n 0, 1) := by decide +kernel
theorem dX6_wipe_31 : decode cX6_wipe 31 = .ok (.iconst 0, 1) := by decide +kernel
theorem dX6_wipe_32 : decode cX6_wipe 32 = .ok (.putfield 103, 3) := by decide +kernel
theorem dX6_wipe_35 : decode cX6_wipe 35 = .ok (.aload_n 0, 1) := by decide +kernel
theorem dX6_wipe_36 : decode cX6_wipe 36 = .ok (.invokevirtual 89, 3) := by decide +kernel
theorem dX6_wipe_39 : decode cX6_wipe 39 = .ok (.iload_n 1, 1) := by decide +kernel
theorem dX6_wipe_40 : decode cX6_wipe 40 = .ok (.ireturn, 1) := by decide +kernel
set_option maxRecDepth 20000 in
theorem ggX6_told_X6_isLine : GoodIn wsX6_told wsX6_isLine := goodIn_r _ [10, 11, 12, 13, 9, 14, 15, 16, 17, 18, 19, 20, 21, 22, 23, 24, 25, 26, 27, 28, 29, 30, 31, 32, 33, 34, 35, 36, 37, 38, 39, 40, 41, 42, 43, 44, 45, 46, 47] (by decide +kernel) (by decide +kernel)
set_option maxRecDepth 20000 in
theorem gX6_told_X6_isLine : GoodIn wsX6_told (wsV RX6 92 RX6 yX6_isLine wsX6_isLine) := goodIn_app (goodIn_of _ (by decide +kernel)) ggX6_told_X6_isLine
theorem dX6_told_0 : decode cX6_told 0 = .ok (.aload_n 0, 1) := by decide +kernel
theorem dX6_told_1 : decode cX6_told 1 = .ok (.iload_n 1, 1) := by decide +kernel
theorem dX6_told_2 : decode cX6_told 2 = .ok (.invokevirtual 92, 3) := by decide +kernel
theorem dX6_told_5 : decode cX6_told 5 = .ok (.ifCond .ne 6, 3) := by decide +kernel
theorem dX6_told_8 : decode cX6_told 8 = .ok (.bipush (-101), 2) := by decide +kernel
theorem dX6_told_10 : decode cX6_told 10 = .ok (.ireturn, 1) := by decide +kernel
theorem dX6_told_11 : decode cX6_told 11 = .ok (.iload_n 2, 1) := by decide +kernel
theorem dX6_told_12 : decode cX6_told 12 = .ok (.ifCond .ne 12, 3) := by decide +kernel
theorem dX6_told_15 : decode cX6_told 15 = .ok (.aload_n 0, 1) := by decide +kernel
theorem dX6_told_16 : decode cX6_told 16 = .ok (.getfield 7, 3) := by decide +kernel
theorem dX6_told_19 : decode cX6_told 19 = .ok (.iload_n 1, 1) := by decide +kernel
theorem dX6_told_20 : decode cX6_told 20 = .ok (.iaload, 1) := by decide +kernel
theorem dX6_told_21 : decode cX6_told 21 = .ok (.goto 61, 3) := by decide +kernel
theorem dX6_told_24 : decode cX6_told 24 = .ok (.iload_n 2, 1) := by decide +kernel
theorem dX6_told_25 : decode cX6_told 25 = .ok (.iconst 1, 1) := by decide +kernel
theorem dX6_told_26 : decode cX6_told 26 = .ok (.if_icmp .ne 12, 3) := by decide +kernel
theorem dX6_told_29 : decode cX6_told 29 = .ok (.aload_n 0, 1) := by decide +kernel
theorem dX6_told_30 : decode cX6_told 30 = .ok (.getfield 13, 3) := by decide +kernel
theorem dX6_told_33 : decode cX6_told 33 = .ok (.iload_n 1, 1) := by decide +kernel
theorem dX6_told_34 : decode cX6_told 34 = .ok (.iaload, 1) := by decide +kernel
theorem dX6_told_35 : decode cX6_told 35 = .ok (.goto 47, 3) := by decide +kernel
theorem dX6_told_38 : decode cX6_told 38 = .ok (.iload_n 2, 1) := by decide +kernel
theorem dX6_told_39 : decode cX6_told 39 = .ok (.iconst 2, 1) := by decide +kernel
theorem dX6_told_40 : decode cX6_told 40 = .ok (.if_icmp .ne 12, 3) := by decide +kernel
theorem dX6_told_43 : decode cX6_told 43 = .ok (.aload_n 0, 1) := by decide +kernel
theorem dX6_told_44 : decode cX6_told 44 = .ok (.getfield 16, 3) := by decide +kernel
theorem dX6_told_47 : decode cX6_told 47 = .ok (.iload_n 1, 1) := by decide +kernel
theorem dX6_told_48 : decode cX6_told 48 = .ok (.iaload, 1) := by decide +kernel
theorem dX6_told_49 : decode cX6_told 49 = .ok (.goto 33, 3) := by decide +kernel
theorem dX6_told_52 : decode cX6_told 52 = .ok (.iload_n 2, 1) := by decide +kernel
theorem dX6_told_53 : decode cX6_told 53 = .ok (.iconst 3, 1) := by decide +kernel
theorem dX6_told_54 : decode cX6_told 54 = .ok (.if_icmp .ne 12, 3) := by decide +kernel
theorem dX6_told_57 : decode cX6_told 57 = .ok (.aload_n 0, 1) := by decide +kernel
theorem dX6_told_58 : decode cX6_told 58 = .ok (.getfield 19, 3) := by decide +kernel
theorem dX6_told_61 : decode cX6_told 61 = .ok (.iload_n 1, 1) := by decide +kernel
theorem dX6_told_62 : decode cX6_told 62 = .ok (.iaload, 1) := by decide +kernel
theorem dX6_told_63 : decode cX6_told 63 = .ok (.goto 19, 3) := by decide +kernel
theorem dX6_told_66 : decode cX6_told 66 = .ok (.iload_n 2, 1) := by decide +kernel
theorem dX6_told_67 : decode cX6_told 67 = .ok (.iconst 4, 1) := by decide +kernel
theorem dX6_told_68 : decode cX6_told 68 = .ok (.if_icmp .ne 12, 3) := by decide +kernel
theorem dX6_told_71 : decode cX6_told 71 = .ok (.aload_n 0, 1) := by decide +kernel
theorem dX6_told_72 : decode cX6_told 72 = .ok (.getfield 22, 3) := by decide +kernel
theorem dX6_told_75 : decode cX6_told 75 = .ok (.iload_n 1, 1) := by decide +kernel
theorem dX6_told_76 : decode cX6_told 76 = .ok (.iaload, 1) := by decide +kernel
theorem dX6_told_77 : decode cX6_told 77 = .ok (.goto 5, 3) := by decide +kernel
theorem dX6_told_80 : decode cX6_told 80 = .ok (.bipush (-102), 2) := by decide +kernel
theorem dX6_told_82 : decode cX6_told 82 = .ok (.ireturn, 1) := by decide +kernel
theorem dX6_readsOf_0 : decode cX6_readsOf 0 = .ok (.iload_n 0, 1) := by decide +kernel
theorem dX6_readsOf_1 : decode cX6_readsOf 1 = .ok (.iconst 1, 1) := by decide +kernel
theorem dX6_readsOf_2 : decode cX6_readsOf 2 = .ok (.if_icmp .ne 9, 3) := by decide +kernel
theorem dX6_readsOf_5 : decode cX6_readsOf 5 = .ok (.iconst 1, 1) := by decide +kernel
theorem dX6_readsOf_6 : decode cX6_readsOf 6 = .ok (.iload_n 2, 1) := by decide +kernel
theorem dX6_readsOf_7 : decode cX6_readsOf 7 = .ok (.ishl, 1) := by decide +kernel
theorem dX6_readsOf_8 : decode cX6_readsOf 8 = .ok (.goto 41, 3) := by decide +kernel
theorem dX6_readsOf_11 : decode cX6_readsOf 11 = .ok (.iload_n 0, 1) := by decide +kernel
theorem dX6_readsOf_12 : decode cX6_readsOf 12 = .ok (.iconst 2, 1) := by decide +kernel
theorem dX6_readsOf_13 : decode cX6_readsOf 13 = .ok (.if_icmp .eq 14, 3) := by decide +kernel
theorem dX6_readsOf_16 : decode cX6_readsOf 16 = .ok (.iload_n 0, 1) := by decide +kernel
theorem dX6_readsOf_17 : decode cX6_readsOf 17 = .ok (.iconst 3, 1) := by decide +kernel
theorem dX6_readsOf_18 : decode cX6_readsOf 18 = .ok (.if_icmp .eq 9, 3) := by decide +kernel
theorem dX6_readsOf_21 : decode cX6_readsOf 21 = .ok (.iload_n 0, 1) := by decide +kernel
theorem dX6_readsOf_22 : decode cX6_readsOf 22 = .ok (.bipush 6, 2) := by decide +kernel
theorem dX6_readsOf_24 : decode cX6_readsOf 24 = .ok (.if_icmp .ne 13, 3) := by decide +kernel
theorem dX6_readsOf_27 : decode cX6_readsOf 27 = .ok (.iconst 1, 1) := by decide +kernel
theorem dX6_readsOf_28 : decode cX6_readsOf 28 = .ok (.iload_n 1, 1) := by decide +kernel
theorem dX6_readsOf_29 : decode cX6_readsOf 29 = .ok (.ishl, 1) := by decide +kernel
theorem dX6_readsOf_30 : decode cX6_readsOf 30 = .ok (.iconst 1, 1) := by decide +kernel
theorem dX6_readsOf_31 : decode cX6_readsOf 31 = .ok (.iload_n 2, 1) := by decide +kernel
theorem dX6_readsOf_32 : decode cX6_readsOf 32 = .ok (.ishl, 1) := by decide +kernel
theorem dX6_readsOf_33 : decode cX6_readsOf 33 = .ok (.ior, 1) := by decide +kernel
theorem dX6_readsOf_34 : decode cX6_readsOf 34 = .ok (.goto 15, 3) := by decide +kernel
theorem dX6_readsOf_37 : decode cX6_readsOf 37 = .ok (.iload_n 0, 1) := by decide +kernel
theorem dX6_readsOf_38 : decode cX6_readsOf 38 = .ok (.iconst 4, 1) := by decide +kernel
theorem dX6_readsOf_39 : decode cX6_readsOf 39 = .ok (.if_icmp .ne 9, 3) := by decide +kernel
theorem dX6_readsOf_42 : decode cX6_readsOf 42 = .ok (.iconst 1, 1) := by decide +kernel
theorem dX6_readsOf_43 : decode cX6_readsOf 43 = .ok (.iload_n 1, 1) := by decide +kernel
theorem dX6_readsOf_44 : decode cX6_readsOf 44 = .ok (.ishl, 1) := by decide +kernel
theorem dX6_readsOf_45 : decode cX6_readsOf 45 = .ok (.goto 4, 3) := by decide +kernel
theorem dX6_readsOf_48 : decode cX6_readsOf 48 = .ok (.iconst 0, 1) := by decide +kernel
theorem dX6_readsOf_49 : decode cX6_readsOf 49 = .ok (.ireturn, 1) := by decide +kernel
theorem dX6_writesOf_0 : decode cX6_writesOf 0 = .ok (.iload_n 0, 1) := by decide +kernel
theorem dX6_writesOf_1 : decode cX6_writesOf 1 = .ok (.iconst 4, 1) := by decide +kernel
theorem dX6_writesOf_2 : decode cX6_writesOf 2 = .ok (.if_icmp .eq 8, 3) := by decide +kernel
theorem dX6_writesOf_5 : decode cX6_writesOf 5 = .ok (.iload_n 0, 1) := by decide +kernel
theorem dX6_writesOf_6 : decode cX6_writesOf 6 = .ok (.iconst 5, 1) := by decide +kernel
theorem dX6_writesOf_7 : decode cX6_writesOf 7 = .ok (.if_icmp .ne 7, 3) := by decide +kernel
theorem dX6_writesOf_10 : decode cX6_writesOf 10 = .ok (.iconst 0, 1) := by decide +kernel
theorem dX6_writesOf_11 : decode cX6_writesOf 11 = .ok (.goto 6, 3) := by decide +kernel
theorem dX6_writesOf_14 : decode cX6_writesOf 14 = .ok (.iconst 1, 1) := by decide +kernel
theorem dX6_writesOf_15 : decode cX6_writesOf 15 = .ok (.iload_n 1, 1) := by decide +kernel
theorem dX6_writesOf_16 : decode cX6_writesOf 16 = .ok (.ishl, 1) := by decide +kernel
theorem dX6_writesOf_17 : decode cX6_writesOf 17 = .ok (.ireturn, 1) := by decide +kernel
set_option maxRecDepth 20000 in
theorem ggX6_touches_X6_writesOf : GoodIn wsX6_touches wsX6_writesOf := goodIn_r _ [7] (by decide +kernel) (by decide +kernel)
set_option maxRecDepth 20000 in
theorem gX6_touches_X6_writesOf : GoodIn wsX6_touches (va_wsS RX6 106 yX6_writesOf wsX6_writesOf) := goodIn_app (goodIn_of _ (by decide +kernel)) ggX6_touches_X6_writesOf
set_option maxRecDepth 20000 in
theorem ggX6_touches_X6_readsOf : GoodIn wsX6_touches wsX6_readsOf := goodIn_r _ [10] (by decide +kernel) (by decide +kernel)
set_option maxRecDepth 20000 in
theorem gX6_touches_X6_readsOf : GoodIn wsX6_touches (va_wsS RX6 110 yX6_readsOf wsX6_readsOf) := goodIn_app (goodIn_of _ (by decide +kernel)) ggX6_touches_X6_readsOf
theorem dX6_touches_0 : decode cX6_touches 0 = .ok (.aload_n 0, 1) := by decide +kernel
theorem dX6_touches_1 : decode cX6_touches 1 = .ok (.getfield 7, 3) := by decide +kernel
theorem dX6_touches_4 : decode cX6_touches 4 = .ok (.iload_n 1, 1) := by decide +kernel
theorem dX6_touches_5 : decode cX6_touches 5 = .ok (.iaload, 1) := by decide +kernel
theorem dX6_touches_6 : decode cX6_touches 6 = .ok (.aload_n 0, 1) := by decide +kernel
theorem dX6_touches_7 : decode cX6_touches 7 = .ok (.getfield 13, 3) := by decide +kernel
theorem dX6_touches_10 : decode cX6_touches 10 = .ok (.iload_n 1, 1) := by decide +kernel
theorem dX6_touches_11 : decode cX6_touches 11 = .ok (.iaload, 1) := by decide +kernel
theorem dX6_touches_12 : decode cX6_touches 12 = .ok (.invokestatic 106, 3) := by decide +kernel
theorem dX6_touches_15 : decode cX6_touches 15 = .ok (.istore_n 3, 1) := by decide +kernel
theorem dX6_touches_16 : decode cX6_touches 16 = .ok (.aload_n 0, 1) := by decide +kernel
theorem dX6_touches_17 : decode cX6_touches 17 = .ok (.getfield 7, 3) := by decide +kernel
theorem dX6_touches_20 : decode cX6_touches 20 = .ok (.iload_n 2, 1) := by decide +kernel
theorem dX6_touches_21 : decode cX6_touches 21 = .ok (.iaload, 1) := by decide +kernel
theorem dX6_touches_22 : decode cX6_touches 22 = .ok (.aload_n 0, 1) := by decide +kernel
theorem dX6_touches_23 : decode cX6_touches 23 = .ok (.getfield 13, 3) := by decide +kernel
theorem dX6_touches_26 : decode cX6_touches 26 = .ok (.iload_n 2, 1) := by decide +kernel
theorem dX6_touches_27 : decode cX6_touches 27 = .ok (.iaload, 1) := by decide +kernel
theorem dX6_touches_28 : decode cX6_touches 28 = .ok (.invokestatic 106, 3) := by decide +kernel
theorem dX6_touches_31 : decode cX6_touches 31 = .ok (.istore 4, 2) := by decide +kernel
theorem dX6_touches_33 : decode cX6_touches 33 = .ok (.aload_n 0, 1) := by decide +kernel
theorem dX6_touches_34 : decode cX6_touches 34 = .ok (.getfield 7, 3) := by decide +kernel
theorem dX6_touches_37 : decode cX6_touches 37 = .ok (.iload_n 1, 1) := by decide +kernel
theorem dX6_touches_38 : decode cX6_touches 38 = .ok (.iaload, 1) := by decide +kernel
theorem dX6_touches_39 : decode cX6_touches 39 = .ok (.iconst 4, 1) := by decide +kernel
theorem dX6_touches_40 : decode cX6_touches 40 = .ok (.if_icmp .ne 17, 3) := by decide +kernel
theorem dX6_touches_43 : decode cX6_touches 43 = .ok (.aload_n 0, 1) := by decide +kernel
theorem dX6_touches_44 : decode cX6_touches 44 = .ok (.getfield 7, 3) := by decide +kernel
theorem dX6_touches_47 : decode cX6_touches 47 = .ok (.iload_n 2, 1) := by decide +kernel
theorem dX6_touches_48 : decode cX6_touches 48 = .ok (.iaload, 1) := by decide +kernel
theorem dX6_touches_49 : decode cX6_touches 49 = .ok (.iconst 4, 1) := by decide +kernel
theorem dX6_touches_50 : decode cX6_touches 50 = .ok (.if_icmp .ne 7, 3) := by decide +kernel
theorem dX6_touches_53 : decode cX6_touches 53 = .ok (.iconst 1, 1) := by decide +kernel
theorem dX6_touches_54 : decode cX6_touches 54 = .ok (.goto 4, 3) := by decide +kernel
theorem dX6_touches_57 : decode cX6_touches 57 = .ok (.iconst 0, 1) := by decide +kernel
theorem dX6_touches_58 : decode cX6_touches 58 = .ok (.istore 5, 2) := by decide +kernel
theorem dX6_touches_60 : decode cX6_touches 60 = .ok (.iload 5, 2) := by decide +kernel
theorem dX6_touches_62 : decode cX6_touches 62 = .ok (.ifCond .ne 63, 3) := by decide +kernel
theorem dX6_touches_65 : decode cX6_touches 65 = .ok (.iload_n 3, 1) := by decide +kernel
theorem dX6_touches_66 : decode cX6_touches 66 = .ok (.aload_n 0, 1) := by decide +kernel
theorem dX6_touches_67 : decode cX6_touches 67 = .ok (.getfield 7, 3) := by decide +kernel
theorem dX6_touches_70 : decode cX6_touches 70 = .ok (.iload_n 2, 1) := by decide +kernel
theorem dX6_touches_71 : decode cX6_touches 71 = .ok (.iaload, 1) := by decide +kernel
theorem dX6_touches_72 : decode cX6_touches 72 = .ok (.aload_n 0, 1) := by decide +kernel
theorem dX6_touches_73 : decode cX6_touches 73 = .ok (.getfield 13, 3) := by decide +kernel
theorem dX6_touches_76 : decode cX6_touches 76 = .ok (.iload_n 2, 1) := by decide +kernel
theorem dX6_touches_77 : decode cX6_touches 77 = .ok (.iaload, 1) := by decide +kernel
theorem dX6_touches_78 : decode cX6_touches 78 = .ok (.aload_n 0, 1) := by decide +kernel
theorem dX6_touches_79 : decode cX6_touches 79 = .ok (.getfield 16, 3) := by decide +kernel
theorem dX6_touches_82 : decode cX6_touches 82 = .ok (.iload_n 2, 1) := by decide +kernel
theorem dX6_touches_83 : decode cX6_touches 83 = .ok (.iaload, 1) := by decide +kernel
theorem dX6_touches_84 : decode cX6_touches 84 = .ok (.invokestatic 110, 3) := by decide +kernel
theorem dX6_touches_87 : decode cX6_touches 87 = .ok (.iand, 1) := by decide +kernel
theorem dX6_touches_88 : decode cX6_touches 88 = .ok (.ifCond .ne 37, 3) := by decide +kernel
theorem dX6_touches_91 : decode cX6_touches 91 = .ok (.aload_n 0, 1) := by decide +kernel
theorem dX6_touches_92 : decode cX6_touches 92 = .ok (.getfield 7, 3) := by decide +kernel
theorem dX6_touches_95 : decode cX6_touches 95 = .ok (.iload_n 1, 1) := by decide +kernel
theorem dX6_touches_96 : decode cX6_touches 96 = .ok (.iaload, 1) := by decide +kernel
theorem dX6_touches_97 : decode cX6_touches 97 = .ok (.aload_n 0, 1) := by decide +kernel
theorem dX6_touches_98 : decode cX6_touches 98 = .ok (.getfield 13, 3) := by decide +kernel
theorem dX6_touches_101 : decode cX6_touches 101 = .ok (.iload_n 1, 1) := by decide +kernel
theorem dX6_touches_102 : decode cX6_touches 102 = .ok (.iaload, 1) := by decide +kernel
theorem dX6_touches_103 : decode cX6_touches 103 = .ok (.aload_n 0, 1) := by decide +kernel
theorem dX6_touches_104 : decode cX6_touches 104 = .ok (.getfield 16, 3) := by decide +kernel
theorem dX6_touches_107 : decode cX6_touches 107 = .ok (.iload_n 1, 1) := by decide +kernel
theorem dX6_touches_108 : decode cX6_touches 108 = .ok (.iaload, 1) := by decide +kernel
theorem dX6_touches_109 : decode cX6_touches 109 = .ok (.invokestatic 110, 3) := by decide +kernel
theorem dX6_touches_112 : decode cX6_touches 112 = .ok (.iload 4, 2) := by decide +kernel
theorem dX6_touches_114 : decode cX6_touches 114 = .ok (.iand, 1) := by decide +kernel
theorem dX6_touches_115 : decode cX6_touches 115 = .ok (.ifCond .ne 10, 3) := by decide +kernel
theorem dX6_touches_118 : decode cX6_touches 118 = .ok (.iload_n 3, 1) := by decide +kernel
theorem dX6_touches_119 : decode cX6_touches 119 = .ok (.iload 4, 2) := by decide +kernel
theorem dX6_touches_121 : decode cX6_touches 121 = .ok (.iand, 1) := by decide +kernel
theorem dX6_touches_122 : decode cX6_touches 122 = .ok (.ifCond .eq 7, 3) := by decide +kernel
theorem dX6_touches_125 : decode cX6_touches 125 = .ok (.iconst 1, 1) := by decide +kernel
theorem dX6_touches_126 : decode cX6_touches 126 = .ok (.goto 4, 3) := by decide +kernel
theorem dX6_touches_129 : decode cX6_touches 129 = .ok (.iconst 0, 1) := by decide +kernel
theorem dX6_touches_130 : decode cX6_touches 130 = .ok (.ireturn, 1) := by decide +kernel
set_option maxRecDepth 20000 in
theorem ggX6_relate_X6_touches : GoodIn wsX6_relate wsX6_touches := goodIn_r _ [10, 11, 12, 13, 14, 15, 9, 16, 17, 18, 19, 20, 21, 22, 23, 24, 25, 26, 27, 28, 29, 30, 31, 32, 33, 34, 35, 36, 37, 38, 39, 40, 41, 42, 43, 44, 45, 46, 47, 48, 49, 50, 51, 52] (by decide +kernel) (by decide +kernel)
set_option maxRecDepth 20000 in
theorem gX6_relate_X6_touches : GoodIn wsX6_relate (wsV RX6 114 RX6 yX6_touches wsX6_touches) := goodIn_app (goodIn_of _ (by decide +kernel)) ggX6_relate_X6_touches
theorem dX6_relate_0 : decode cX6_relate 0 = .ok (.aload_n 0, 1) := by decide +kernel
theorem dX6_relate_1 : decode cX6_relate 1 = .ok (.getfield 82, 3) := by decide +kernel
theorem dX6_relate_4 : decode cX6_relate 4 = .ok (.iconst 1, 1) := by decide +kernel
theorem dX6_relate_5 : decode cX6_relate 5 = .ok (.isub, 1) := by decide +kernel
theorem dX6_relate_6 : decode cX6_relate 6 = .ok (.istore_n 1, 1) := by decide +kernel
theorem dX6_relate_7 : decode cX6_relate 7 = .ok (.iload_n 1, 1) := by decide +kernel
theorem dX6_relate_8 : decode cX6_relate 8 = .ok (.ifCond .lt 72, 3) := by decide +kernel
theorem dX6_relate_11 : decode cX6_relate 11 = .ok (.aload_n 0, 1) := by decide +kernel
theorem dX6_relate_12 : decode cX6_relate 12 = .ok (.getfield 31, 3) := by decide +kernel
theorem dX6_relate_15 : decode cX6_relate 15 = .ok (.iload_n 1, 1) := by decide +kernel
theorem dX6_relate_16 : decode cX6_relate 16 = .ok (.iconst 0, 1) := by decide +kernel
theorem dX6_relate_17 : decode cX6_relate 17 = .ok (.iastore, 1) := by decide +kernel
theorem dX6_relate_18 : decode cX6_relate 18 = .ok (.iload_n 1, 1) := by decide +kernel
theorem dX6_relate_19 : decode cX6_relate 19 = .ok (.iconst 1, 1) := by decide +kernel
theorem dX6_relate_20 : decode cX6_relate 20 = .ok (.iadd, 1) := by decide +kernel
theorem dX6_relate_21 : decode cX6_relate 21 = .ok (.istore_n 2, 1) := by decide +kernel
theorem dX6_relate_22 : decode cX6_relate 22 = .ok (.iload_n 2, 1) := by decide +kernel
theorem dX6_relate_23 : decode cX6_relate 23 = .ok (.aload_n 0, 1) := by decide +kernel
theorem dX6_relate_24 : decode cX6_relate 24 = .ok (.getfield 82, 3) := by decide +kernel
theorem dX6_relate_27 : decode cX6_relate 27 = .ok (.if_icmp .ge 47, 3) := by decide +kernel
theorem dX6_relate_30 : decode cX6_relate 30 = .ok (.aload_n 0, 1) := by decide +kernel
theorem dX6_relate_31 : decode cX6_relate 31 = .ok (.aload_n 0, 1) := by decide +kernel
theorem dX6_relate_32 : decode cX6_relate 32 = .ok (.getfield 25, 3) := by decide +kernel
theorem dX6_relate_35 : decode cX6_relate 35 = .ok (.iload_n 1, 1) := by decide +kernel
theorem dX6_relate_36 : decode cX6_relate 36 = .ok (.iaload, 1) := by decide +kernel
theorem dX6_relate_37 : decode cX6_relate 37 = .ok (.aload_n 0, 1) := by decide +kernel
theorem dX6_relate_38 : decode cX6_relate 38 = .ok (.getfield 25, 3) := by decide +kernel
theorem dX6_relate_41 : decode cX6_relate 41 = .ok (.iload_n 2, 1) := by decide +kernel
theorem dX6_relate_42 : decode cX6_relate 42 = .ok (.iaload, 1) := by decide +kernel
theorem dX6_relate_43 : decode cX6_relate 43 = .ok (.invokevirtual 114, 3) := by decide +kernel
theorem dX6_relate_46 : decode cX6_relate 46 = .ok (.ifCond .eq 22, 3) := by decide +kernel
theorem dX6_relate_49 : decode cX6_relate 49 = .ok (.aload_n 0, 1) := by decide +kernel
theorem dX6_relate_50 : decode cX6_relate 50 = .ok (.getfield 31, 3) := by decide +kernel
theorem dX6_relate_53 : decode cX6_relate 53 = .ok (.iload_n 1, 1) := by decide +kernel
theorem dX6_relate_54 : decode cX6_relate 54 = .ok (.dup2, 1) := by decide +kernel
theorem dX6_relate_55 : decode cX6_relate 55 = .ok (.iaload, 1) := by decide +kernel
theorem dX6_relate_56 : decode cX6_relate 56 = .ok (.iconst 1, 1) := by decide +kernel
theorem dX6_relate_57 : decode cX6_relate 57 = .ok (.iload_n 2, 1) := by decide +kernel
theorem dX6_relate_58 : decode cX6_relate 58 = .ok (.ishl, 1) := by decide +kernel
theorem dX6_relate_59 : decode cX6_relate 59 = .ok (.aload_n 0, 1) := by decide +kernel
theorem dX6_relate_60 : decode cX6_relate 60 = .ok (.getfield 31, 3) := by decide +kernel
theorem dX6_relate_63 : decode cX6_relate 63 = .ok (.iload_n 2, 1) := by decide +kernel
theorem dX6_relate_64 : decode cX6_relate 64 = .ok (.iaload, 1) := by decide +kernel
theorem dX6_relate_65 : decode cX6_relate 65 = .ok (.ior, 1) := by decide +kernel
theorem dX6_relate_66 : decode cX6_relate 66 = .ok (.ior, 1) := by decide +kernel
theorem dX6_relate_67 : decode cX6_relate 67 = .ok (.iastore, 1) := by decide +kernel
theorem dX6_relate_68 : decode cX6_relate 68 = .ok (.iinc 2 1, 3) := by decide +kernel
theorem dX6_relate_71 : decode cX6_relate 71 = .ok (.goto (-49), 3) := by decide +kernel
theorem dX6_relate_74 : decode cX6_relate 74 = .ok (.iinc 1 (-1), 3) := by decide +kernel
theorem dX6_relate_77 : decode cX6_relate 77 = .ok (.goto (-70), 3) := by decide +kernel
theorem dX6_relate_80 : decode cX6_relate 80 = .ok (.iconst 0, 1) := by decide +kernel
theorem dX6_relate_81 : decode cX6_relate 81 = .ok (.istore_n 1, 1) := by decide +kernel
theorem dX6_relate_82 : decode cX6_relate 82 = .ok (.iload_n 1, 1) := by decide +kernel
theorem dX6_relate_83 : decode cX6_relate 83 = .ok (.aload_n 0, 1) := by decide +kernel
theorem dX6_relate_84 : decode cX6_relate 84 = .ok (.getfield 82, 3) := by decide +kernel
theorem dX6_relate_87 : decode cX6_relate 87 = .ok (.if_icmp .ge 59, 3) := by decide +kernel
theorem dX6_relate_90 : decode cX6_relate 90 = .ok (.aload_n 0, 1) := by decide +kernel
theorem dX6_relate_91 : decode cX6_relate 91 = .ok (.getfield 34, 3) := by decide +kernel
theorem dX6_relate_94 : decode cX6_relate 94 = .ok (.iload_n 1, 1) := by decide +kernel
theorem dX6_relate_95 : decode cX6_relate 95 = .ok (.iconst 0, 1) := by decide +kernel
theorem dX6_relate_96 : decode cX6_relate 96 = .ok (.iastore, 1) := by decide +kernel
theorem dX6_relate_97 : decode cX6_relate 97 = .ok (.iconst 0, 1) := by decide +kernel
theorem dX6_relate_98 : decode cX6_relate 98 = .ok (.istore_n 2, 1) := by decide +kernel
theorem dX6_relate_99 : decode cX6_relate 99 = .ok (.iload_n 2, 1) := by decide +kernel
theorem dX6_relate_100 : decode cX6_relate 100 = .ok (.iload_n 1, 1) := by decide +kernel
theorem dX6_relate_101 : decode cX6_relate 101 = .ok (.if_icmp .ge 39, 3) := by decide +kernel
theorem dX6_relate_104 : decode cX6_relate 104 = .ok (.aload_n 0, 1) := by decide +kernel
theorem dX6_relate_105 : decode cX6_relate 105 = .ok (.getfield 34, 3) := by decide +kernel
theorem dX6_relate_108 : decode cX6_relate 108 = .ok (.iload_n 1, 1) := by decide +kernel
theorem dX6_relate_109 : decode cX6_relate 109 = .ok (.dup2, 1) := by decide +kernel
theorem dX6_relate_110 : decode cX6_relate 110 = .ok (.iaload, 1) := by decide +kernel
theorem dX6_relate_111 : decode cX6_relate 111 = .ok (.aload_n 0, 1) := by decide +kernel
theorem dX6_relate_112 : decode cX6_relate 112 = .ok (.getfield 31, 3) := by decide +kernel
theorem dX6_relate_115 : decode cX6_relate 115 = .ok (.iload_n 2, 1) := by decide +kernel
theorem dX6_relate_116 : decode cX6_relate 116 = .ok (.iaload, 1) := by decide +kernel
theorem dX6_relate_117 : decode cX6_relate 117 = .ok (.iload_n 1, 1) := by decide +kernel
theorem dX6_relate_118 : decode cX6_relate 118 = .ok (.ishr, 1) := by decide +kernel
theorem dX6_relate_119 : decode cX6_relate 119 = .ok (.iconst 1, 1) := by decide +kernel
theorem dX6_relate_120 : decode cX6_relate 120 = .ok (.iand, 1) := by decide +kernel
theorem dX6_relate_121 : decode cX6_relate 121 = .ok (.iconst 1, 1) := by decide +kernel
theorem dX6_relate_122 : decode cX6_relate 122 = .ok (.if_icmp .ne 9, 3) := by decide +kernel
theorem dX6_relate_125 : decode cX6_relate 125 = .ok (.iconst 1, 1) := by decide +kernel
theorem dX6_relate_126 : decode cX6_relate 126 = .ok (.iload_n 2, 1) := by decide +kernel
theorem dX6_relate_127 : decode cX6_relate 127 = .ok (.ishl, 1) := by decide +kernel
theorem dX6_relate_128 : decode cX6_relate 128 = .ok (.goto 4, 3) := by decide +kernel
theorem dX6_relate_131 : decode cX6_relate 131 = .ok (.iconst 0, 1) := by decide +kernel
theorem dX6_relate_132 : decode cX6_relate 132 = .ok (.ior, 1) := by decide +kernel
theorem dX6_relate_133 : decode cX6_relate 133 = .ok (.iastore, 1) := by decide +kernel
theorem dX6_relate_134 : decode cX6_relate 134 = .ok (.iinc 2 1, 3) := by decide +kernel
theorem dX6_relate_137 : decode cX6_relate 137 = .ok (.goto (-38), 3) := by decide +kernel
theorem dX6_relate_140 : decode cX6_relate 140 = .ok (.iinc 1 1, 3) := by decide +kernel
theorem dX6_relate_143 : decode cX6_relate 143 = .ok (.goto (-61), 3) := by decide +kernel
theorem dX6_relate_146 : decode cX6_relate 146 = .ok (.iconst 1, 1) := by decide +kernel
theorem dX6_relate_147 : decode cX6_relate 147 = .ok (.aload_n 0, 1) := by decide +kernel
theorem dX6_relate_148 : decode cX6_relate 148 = .ok (.getfield 82, 3) := by decide +kernel
theorem dX6_relate_151 : decode cX6_relate 151 = .ok (.ishl, 1) := by decide +kernel
theorem dX6_relate_152 : decode cX6_relate 152 = .ok (.iconst 1, 1) := by decide +kernel
theorem dX6_relate_153 : decode cX6_relate 153 = .ok (.isub, 1) := by decide +kernel
theorem dX6_relate_154 : decode cX6_relate 154 = .ok (.istore_n 1, 1) := by decide +kernel
theorem dX6_relate_155 : decode cX6_relate 155 = .ok (.aload_n 0, 1) := by decide +kernel
theorem dX6_relate_156 : decode cX6_relate 156 = .ok (.getfield 37, 3) := by decide +kernel
theorem dX6_relate_159 : decode cX6_relate 159 = .ok (.iload_n 1, 1) := by decide +kernel
theorem dX6_relate_160 : decode cX6_relate 160 = .ok (.lconst 1, 1) := by decide +kernel
theorem dX6_relate_161 : decode cX6_relate 161 = .ok (.lastore, 1) := by decide +kernel
theorem dX6_relate_162 : decode cX6_relate 162 = .ok (.iload_n 1, 1) := by decide +kernel
theorem dX6_relate_163 : decode cX6_relate 163 = .ok (.iconst 1, 1) := by decide +kernel
theorem dX6_relate_164 : decode cX6_relate 164 = .ok (.isub, 1) := by decide +kernel
theorem dX6_relate_165 : decode cX6_relate 165 = .ok (.istore_n 2, 1) := by decide +kernel
theorem dX6_relate_166 : decode cX6_relate 166 = .ok (.iload_n 2, 1) := by decide +kernel
theorem dX6_relate_167 : decode cX6_relate 167 = .ok (.ifCond .lt 72, 3) := by decide +kernel
theorem dX6_relate_170 : decode cX6_relate 170 = .ok (.aload_n 0, 1) := by decide +kernel
theorem dX6_relate_171 : decode cX6_relate 171 = .ok (.getfield 37, 3) := by decide +kernel
theorem dX6_relate_174 : decode cX6_relate 174 = .ok (.iload_n 2, 1) := by decide +kernel
theorem dX6_relate_175 : decode cX6_relate 175 = .ok (.lconst 0, 1) := by decide +kernel
theorem dX6_relate_176 : decode cX6_relate 176 = .ok (.lastore, 1) := by decide +kernel
theorem dX6_relate_177 : decode cX6_relate 177 = .ok (.iconst 0, 1) := by decide +kernel
theorem dX6_relate_178 : decode cX6_relate 178 = .ok (.istore_n 3, 1) := by decide +kernel
theorem dX6_relate_179 : decode cX6_relate 179 = .ok (.iload_n 3, 1) := by decide +kernel
theorem dX6_relate_180 : decode cX6_relate 180 = .ok (.aload_n 0, 1) := by decide +kernel
theorem dX6_relate_181 : decode cX6_relate 181 = .ok (.getfield 82, 3) := by decide +kernel
theorem dX6_relate_184 : decode cX6_relate 184 = .ok (.if_icmp .ge 49, 3) := by decide +kernel
theorem dX6_relate_187 : decode cX6_relate 187 = .ok (.iload_n 2, 1) := by decide +kernel
theorem dX6_relate_188 : decode cX6_relate 188 = .ok (.iload_n 3, 1) := by decide +kernel
theorem dX6_relate_189 : decode cX6_relate 189 = .ok (.ishr, 1) := by decide +kernel
theorem dX6_relate_190 : decode cX6_relate 190 = .ok (.iconst 1, 1) := by decide +kernel
theorem dX6_relate_191 : decode cX6_relate 191 = .ok (.iand, 1) := by decide +kernel
theorem dX6_relate_192 : decode cX6_relate 192 = .ok (.ifCond .ne 35, 3) := by decide +kernel
theorem dX6_relate_195 : decode cX6_relate 195 = .ok (.aload_n 0, 1) := by decide +kernel
theorem dX6_relate_196 : decode cX6_relate 196 = .ok (.getfield 34, 3) := by decide +kernel
theorem dX6_relate_199 : decode cX6_relate 199 = .ok (.iload_n 3, 1) := by decide +kernel
theorem dX6_relate_200 : decode cX6_relate 200 = .ok (.iaload, 1) := by decide +kernel
theorem dX6_relate_201 : decode cX6_relate 201 = .ok (.iload_n 2, 1) := by decide +kernel
theorem dX6_relate_202 : decode cX6_relate 202 = .ok (.iconst (-1), 1) := by decide +kernel
theorem dX6_relate_203 : decode cX6_relate 203 = .ok (.ixor, 1) := by decide +kernel
theorem dX6_relate_204 : decode cX6_relate 204 = .ok (.iand, 1) := by decide +kernel
theorem dX6_relate_205 : decode cX6_relate 205 = .ok (.ifCond .ne 22, 3) := by decide +kernel
theorem dX6_relate_208 : decode cX6_relate 208 = .ok (.aload_n 0, 1) := by decide +kernel
theorem dX6_relate_209 : decode cX6_relate 209 = .ok (.getfield 37, 3) := by decide +kernel
theorem dX6_relate_212 : decode cX6_relate 212 = .ok (.iload_n 2, 1) := by decide +kernel
theorem dX6_relate_213 : decode cX6_relate 213 = .ok (.dup2, 1) := by decide +kernel
theorem dX6_relate_214 : decode cX6_relate 214 = .ok (.laload, 1) := by decide +kernel
theorem dX6_relate_215 : decode cX6_relate 215 = .ok (.aload_n 0, 1) := by decide +kernel
theorem dX6_relate_216 : decode cX6_relate 216 = .ok (.getfield 37, 3) := by decide +kernel
theorem dX6_relate_219 : decode cX6_relate 219 = .ok (.iload_n 2, 1) := by decide +kernel
theorem dX6_relate_220 : decode cX6_relate 220 = .ok (.iconst 1, 1) := by decide +kernel
theorem dX6_relate_221 : decode cX6_relate 221 = .ok (.iload_n 3, 1) := by decide +kernel
theorem dX6_relate_222 : decode cX6_relate 222 = .ok (.ishl, 1) := by decide +kernel
theorem dX6_relate_223 : decode cX6_relate 223 = .ok (.ior, 1) := by decide +kernel
theorem dX6_relate_224 : decode cX6_relate 224 = .ok (.laload, 1) := by decide +kernel
theorem dX6_relate_225 : decode cX6_relate 225 = .ok (.ladd, 1) := by decide +kernel
theorem dX6_relate_226 : decode cX6_relate 226 = .ok (.lastore, 1) := by decide +kernel
theorem dX6_relate_227 : decode cX6_relate 227 = .ok (.iinc 3 1, 3) := by decide +kernel
theorem dX6_relate_230 : decode cX6_relate 230 = .ok (.goto (-51), 3) := by decide +kernel
theorem dX6_relate_233 : decode cX6_relate 233 = .ok (.iinc 2 (-1), 3) := by decide +kernel
theorem dX6_relate_236 : decode cX6_relate 236 = .ok (.goto (-70), 3) := by decide +kernel
theorem dX6_relate_239 : decode cX6_relate 239 = .ok (.return_, 1) := by decide +kernel
theorem dX6_needsOf_0 : decode cX6_needsOf 0 = .ok (.aload_n 0, 1) := by decide +kernel
theorem dX6_needsOf_1 : decode cX6_needsOf 1 = .ok (.getfield 19, 3) := by decide +kernel
theorem dX6_needsOf_4 : decode cX6_needsOf 4 = .ok (.iload_n 1, 1) := by decide +kernel
theorem dX6_needsOf_5 : decode cX6_needsOf 5 = .ok (.iaload, 1) := by decide +kernel
theorem dX6_needsOf_6 : decode cX6_needsOf 6 = .ok (.ifCond .ne 40, 3) := by decide +kernel
theorem dX6_needsOf_9 : decode cX6_needsOf 9 = .ok (.aload_n 0, 1) := by decide +kernel
theorem dX6_needsOf_10 : decode cX6_needsOf 10 = .ok (.getfield 19, 3) := by decide +kernel
theorem dX6_needsOf_13 : decode cX6_needsOf 13 = .ok (.iload_n 2, 1) := by decide +kernel
theorem dX6_needsOf_14 : decode cX6_needsOf 14 = .ok (.iaload, 1) := by decide +kernel
theorem dX6_needsOf_15 : decode cX6_needsOf 15 = .ok (.ifCond .ne 31, 3) := by decide +kernel
theorem dX6_needsOf_18 : decode cX6_needsOf 18 = .ok (.aload_n 0, 1) := by decide +kernel
theorem dX6_needsOf_19 : decode cX6_needsOf 19 = .ok (.getfield 31, 3) := by decide +kernel
theorem dX6_needsOf_22 : decode cX6_needsOf 22 = .ok (.aload_n 0, 1) := by decide +kernel
theorem dX6_needsOf_23 : decode cX6_needsOf 23 = .ok (.getfield 28, 3) := by decide +kernel
theorem dX6_needsOf_26 : decode cX6_needsOf 26 = .ok (.iload_n 1, 1) := by decide +kernel
theorem dX6_needsOf_27 : decode cX6_needsOf 27 = .ok (.iaload, 1) := by decide +kernel
theorem dX6_needsOf_28 : decode cX6_needsOf 28 = .ok (.iaload, 1) := by decide +kernel
theorem dX6_needsOf_29 : decode cX6_needsOf 29 = .ok (.aload_n 0, 1) := by decide +kernel
theorem dX6_needsOf_30 : decode cX6_needsOf 30 = .ok (.getfield 28, 3) := by decide +kernel
theorem dX6_needsOf_33 : decode cX6_needsOf 33 = .ok (.iload_n 2, 1) := by decide +kernel
theorem dX6_needsOf_34 : decode cX6_needsOf 34 = .ok (.iaload, 1) := by decide +kernel
theorem dX6_needsOf_35 : decode cX6_needsOf 35 = .ok (.ishr, 1) := by decide +kernel
theorem dX6_needsOf_36 : decode cX6_needsOf 36 = .ok (.iconst 1, 1) := by decide +kernel
theorem dX6_needsOf_37 : decode cX6_needsOf 37 = .ok (.iand, 1) := by decide +kernel
theorem dX6_needsOf_38 : decode cX6_needsOf 38 = .ok (.iconst 1, 1) := by decide +kernel
theorem dX6_needsOf_39 : decode cX6_needsOf 39 = .ok (.if_icmp .ne 7, 3) := by decide +kernel
theorem dX6_needsOf_42 : decode cX6_needsOf 42 = .ok (.iconst 1, 1) := by decide +kernel
theorem dX6_needsOf_43 : decode cX6_needsOf 43 = .ok (.goto 4, 3) := by decide +kernel
theorem dX6_needsOf_46 : decode cX6_needsOf 46 = .ok (.iconst 0, 1) := by decide +kernel
theorem dX6_needsOf_47 : decode cX6_needsOf 47 = .ok (.ireturn, 1) := by decide +kernel
set_option maxRecDepth 20000 in
theorem ggX6_needs_X6_isLine : GoodIn wsX6_needs wsX6_isLine := goodIn_r _ [5, 6, 7, 8, 4, 9, 17, 18, 19, 20, 21, 22, 23, 24, 25, 26, 27, 28, 29, 30, 31, 32, 33, 34, 35, 36, 37, 38, 39, 40, 41, 42, 43, 44, 45, 46, 47, 48, 49] (by decide +kernel) (by decide +kernel)
set_option maxRecDepth 20000 in
theorem gX6_needs_X6_isLine : GoodIn wsX6_needs (wsV RX6 92 RX6 yX6_isLine wsX6_isLine) := goodIn_app (goodIn_of _ (by decide +kernel)) ggX6_needs_X6_isLine
set_option maxRecDepth 20000 in
theorem ggX6_needs_X6_needsOf : GoodIn wsX6_needs wsX6_needsOf := goodIn_r _ [13, 14, 15, 16, 17, 18, 19, 20, 21, 22, 23, 24, 25, 26, 27, 28, 29, 30, 31, 32, 33, 34, 35, 36, 37, 38, 39, 40, 41, 42, 43, 44, 45, 46, 47, 48, 49] (by decide +kernel) (by decide +kernel)
set_option maxRecDepth 20000 in
theorem gX6_needs_X6_needsOf : GoodIn wsX6_needs (wsV RX6 118 RX6 yX6_needsOf wsX6_needsOf) := goodIn_app (goodIn_of _ (by decide +kernel)) ggX6_needs_X6_needsOf
theorem dX6_needs_0 : decode cX6_needs 0 = .ok (.aload_n 0, 1) := by decide +kernel
theorem dX6_needs_1 : decode cX6_needs 1 = .ok (.iload_n 1, 1) := by decide +kernel
theorem dX6_needs_2 : decode cX6_needs 2 = .ok (.invokevirtual 92, 3) := by decide +kernel
theorem dX6_needs_5 : decode cX6_needs 5 = .ok (.ifCond .eq 11, 3) := by decide +kernel
theorem dX6_needs_8 : decode cX6_needs 8 = .ok (.aload_n 0, 1) := by decide +kernel
theorem dX6_needs_9 : decode cX6_needs 9 = .ok (.iload_n 2, 1) := by decide +kernel
theorem dX6_needs_10 : decode cX6_needs 10 = .ok (.invokevirtual 92, 3) := by decide +kernel
theorem dX6_needs_13 : decode cX6_needs 13 = .ok (.ifCond .ne 6, 3) := by decide +kernel
theorem dX6_needs_16 : decode cX6_needs 16 = .ok (.bipush (-101), 2) := by decide +kernel
theorem dX6_needs_18 : decode cX6_needs 18 = .ok (.ireturn, 1) := by decide +kernel
theorem dX6_needs_19 : decode cX6_needs 19 = .ok (.aload_n 0, 1) := by decide +kernel
theorem dX6_needs_20 : decode cX6_needs 20 = .ok (.iload_n 1, 1) := by decide +kernel
theorem dX6_needs_21 : decode cX6_needs 21 = .ok (.iload_n 2, 1) := by decide +kernel
theorem dX6_needs_22 : decode cX6_needs 22 = .ok (.invokevirtual 118, 3) := by decide +kernel
theorem dX6_needs_25 : decode cX6_needs 25 = .ok (.ifCond .eq 7, 3) := by decide +kernel
theorem dX6_needs_28 : decode cX6_needs 28 = .ok (.iconst 1, 1) := by decide +kernel
theorem dX6_needs_29 : decode cX6_needs 29 = .ok (.goto 4, 3) := by decide +kernel
theorem dX6_needs_32 : decode cX6_needs 32 = .ok (.iconst 0, 1) := by decide +kernel
theorem dX6_needs_33 : decode cX6_needs 33 = .ok (.ireturn, 1) := by decide +kernel
theorem dX6_orders_0 : decode cX6_orders 0 = .ok (.aload_n 0, 1) := by decide +kernel
theorem dX6_orders_1 : decode cX6_orders 1 = .ok (.getfield 37, 3) := by decide +kernel
theorem dX6_orders_4 : decode cX6_orders 4 = .ok (.iconst 0, 1) := by decide +kernel
theorem dX6_orders_5 : decode cX6_orders 5 = .ok (.laload, 1) := by decide +kernel
theorem dX6_orders_6 : decode cX6_orders 6 = .ok (.lreturn, 1) := by decide +kernel
set_option maxRecDepth 20000 in
theorem ggX6_right_X6_in : GoodIn wsX6_right wsX6_in := goodIn_r _ [8] (by decide +kernel) (by decide +kernel)
set_option maxRecDepth 20000 in
theorem gX6_right_X6_in : GoodIn wsX6_right (va_wsS RX6 72 yX6_in wsX6_in) := goodIn_app (goodIn_of _ (by decide +kernel)) ggX6_right_X6_in
theorem dX6_right_0 : decode cX6_right 0 = .ok (.lload_n 1, 1) := by decide +kernel
theorem dX6_right_1 : decode cX6_right 1 = .ok (.lconst 0, 1) := by decide +kernel
theorem dX6_right_2 : decode cX6_right 2 = .ok (.lcmp, 1) := by decide +kernel
theorem dX6_right_3 : decode cX6_right 3 = .ok (.ifCond .lt 28, 3) := by decide +kernel
theorem dX6_right_6 : decode cX6_right 6 = .ok (.lload_n 1, 1) := by decide +kernel
theorem dX6_right_7 : decode cX6_right 7 = .ok (.aload_n 0, 1) := by decide +kernel
theorem dX6_right_8 : decode cX6_right 8 = .ok (.getfield 37, 3) := by decide +kernel
theorem dX6_right_11 : decode cX6_right 11 = .ok (.iconst 0, 1) := by decide +kernel
theorem dX6_right_12 : decode cX6_right 12 = .ok (.laload, 1) := by decide +kernel
theorem dX6_right_13 : decode cX6_right 13 = .ok (.lcmp, 1) := by decide +kernel
theorem dX6_right_14 : decode cX6_right 14 = .ok (.ifCond .ge 17, 3) := by decide +kernel
theorem dX6_right_17 : decode cX6_right 17 = .ok (.iload_n 3, 1) := by decide +kernel
theorem dX6_right_18 : decode cX6_right 18 = .ok (.iconst 0, 1) := by decide +kernel
theorem dX6_right_19 : decode cX6_right 19 = .ok (.aload_n 0, 1) := by decide +kernel
theorem dX6_right_20 : decode cX6_right 20 = .ok (.getfield 82, 3) := by decide +kernel
theorem dX6_right_23 : decode cX6_right 23 = .ok (.iconst 1, 1) := by decide +kernel
theorem dX6_right_24 : decode cX6_right 24 = .ok (.isub, 1) := by decide +kernel
theorem dX6_right_25 : decode cX6_right 25 = .ok (.invokestatic 72, 3) := by decide +kernel
theorem dX6_right_28 : decode cX6_right 28 = .ok (.ifCond .ne 5, 3) := by decide +kernel
theorem dX6_right_31 : decode cX6_right 31 = .ok (.iconst (-1), 1) := by decide +kernel
theorem dX6_right_32 : decode cX6_right 32 = .ok (.ireturn, 1) := by decide +kernel
theorem dX6_right_33 : decode cX6_right 33 = .ok (.lload_n 1, 1) := by decide +kernel
theorem dX6_right_34 : decode cX6_right 34 = .ok (.lstore 4, 2) := by decide +kernel
theorem dX6_right_36 : decode cX6_right 36 = .ok (.iconst 0, 1) := by decide +kernel
theorem dX6_right_37 : decode cX6_right 37 = .ok (.istore 6, 2) := by decide +kernel
theorem dX6_right_39 : decode cX6_right 39 = .ok (.iconst (-1), 1) := by decide +kernel
theorem dX6_right_40 : decode cX6_right 40 = .ok (.istore 7, 2) := by decide +kernel
theorem dX6_right_42 : decode cX6_right 42 = .ok (.iconst 0, 1) := by decide +kernel
theorem dX6_right_43 : decode cX6_right 43 = .ok (.istore 8, 2) := by decide +kernel
theorem dX6_right_45 : decode cX6_right 45 = .ok (.iload 8, 2) := by decide +kernel
theorem dX6_right_47 : decode cX6_right 47 = .ok (.iload_n 3, 1) := by decide +kernel
theorem dX6_right_48 : decode cX6_right 48 = .ok (.if_icmp .gt 106, 3) := by decide +kernel
theorem dX6_right_51 : decode cX6_right 51 = .ok (.iconst (-1), 1) := by decide +kernel
theorem dX6_right_52 : decode cX6_right 52 = .ok (.istore 7, 2) := by decide +kernel
theorem dX6_right_54 : decode cX6_right 54 = .ok (.iconst 0, 1) := by decide +kernel
theorem dX6_right_55 : decode cX6_right 55 = .ok (.istore 9, 2) := by decide +kernel
theorem dX6_right_57 : decode cX6_right 57 = .ok (.iload 9, 2) := by decide +kernel
theorem dX6_right_59 : decode cX6_right 59 = .ok (.aload_n 0, 1) := by decide +kernel
theorem dX6_right_60 : decode cX6_right 60 = .ok (.getfield 82, 3) := by decide +kernel
theorem dX6_right_63 : decode cX6_right 63 = .ok (.if_icmp .ge 76, 3) := by decide +kernel
theorem dX6_right_66 : decode cX6_right 66 = .ok (.iload 7, 2) := by decide +kernel
theorem dX6_right_68 : decode cX6_right 68 = .ok (.iconst (-1), 1) := by decide +kernel
theorem dX6_right_69 : decode cX6_right 69 = .ok (.if_icmp .ne 70, 3) := by decide +kernel
theorem dX6_right_72 : decode cX6_right 72 = .ok (.iload 6, 2) := by decide +kernel
theorem dX6_right_74 : decode cX6_right 74 = .ok (.iload 9, 2) := by decide +kernel
theorem dX6_right_76 : decode cX6_right 76 = .ok (.ishr, 1) := by decide +kernel
theorem dX6_right_77 : decode cX6_right 77 = .ok (.iconst 1, 1) := by decide +kernel
theorem dX6_right_78 : decode cX6_right 78 = .ok (.iand, 1) := by decide +kernel
theorem dX6_right_79 : decode cX6_right 79 = .ok (.ifCond .ne 54, 3) := by decide +kernel
theorem dX6_right_82 : decode cX6_right 82 = .ok (.aload_n 0, 1) := by decide +kernel
theorem dX6_right_83 : decode cX6_right 83 = .ok (.getfield 34, 3) := by decide +kernel
theorem dX6_right_86 : decode cX6_right 86 = .ok (.iload 9, 2) := by decide +kernel
theorem dX6_right_88 : decode cX6_right 88 = .ok (.iaload, 1) := by decide +kernel
theorem dX6_right_89 : decode cX6_right 89 = .ok (.iload 6, 2) := by decide +kernel
theorem dX6_right_91 : decode cX6_right 91 = .ok (.iconst (-1), 1) := by decide +kernel
theorem dX6_right_92 : decode cX6_right 92 = .ok (.ixor, 1) := by decide +kernel
theorem dX6_right_93 : decode cX6_right 93 = .ok (.iand, 1) := by decide +kernel
theorem dX6_right_94 : decode cX6_right 94 = .ok (.ifCond .ne 39, 3) := by decide +kernel
theorem dX6_right_97 : decode cX6_right 97 = .ok (.aload_n 0, 1) := by decide +kernel
theorem dX6_right_98 : decode cX6_right 98 = .ok (.getfield 37, 3) := by decide +kernel
theorem dX6_right_101 : decode cX6_right 101 = .ok (.iload 6, 2) := by decide +kernel
theorem dX6_right_103 : decode cX6_right 103 = .ok (.iconst 1, 1) := by decide +kernel
theorem dX6_right_104 : decode cX6_right 104 = .ok (.iload 9, 2) := by decide +kernel
theorem dX6_right_106 : decode cX6_right 106 = .ok (.ishl, 1) := by decide +kernel
theorem dX6_right_107 : decode cX6_right 107 = .ok (.ior, 1) := by decide +kernel
theorem dX6_right_108 : decode cX6_right 108 = .ok (.laload, 1) := by decide +kernel
theorem dX6_right_109 : decode cX6_right 109 = .ok (.lstore 10, 2) := by decide +kernel
theorem dX6_right_111 : decode cX6_right 111 = .ok (.lload 4, 2) := by decide +kernel
theorem dX6_right_113 : decode cX6_right 113 = .ok (.lload 10, 2) := by decide +kernel
theorem dX6_right_115 : decode cX6_right 115 = .ok (.lcmp, 1) := by decide +kernel
theorem dX6_right_116 : decode cX6_right 116 = .ok (.ifCond .ge 10, 3) := by decide +kernel
theorem dX6_right_119 : decode cX6_right 119 = .ok (.iload 9, 2) := by decide +kernel
theorem dX6_right_121 : decode cX6_right 121 = .ok (.istore 7, 2) := by decide +kernel
theorem dX6_right_123 : decode cX6_right 123 = .ok (.goto 10, 3) := by decide +kernel
theorem dX6_right_126 : decode cX6_right 126 = .ok (.lload 4, 2) := by decide +kernel
theorem dX6_right_128 : decode cX6_right 128 = .ok (.lload 10, 2) := by decide +kernel
theorem dX6_right_130 : decode cX6_right 130 = .ok (.lsub, 1) := by decide +kernel
theorem dX6_right_131 : decode cX6_right 131 = .ok (.lstore 4, 2) := by decide +kernel
theorem dX6_right_133 : decode cX6_right 133 = .ok (.iinc 9 1, 3) := by decide +kernel
theorem dX6_right_136 : decode cX6_right 136 = .ok (.goto (-79), 3) := by decide +kernel
theorem dX6_right_139 : decode cX6_right 139 = .ok (.iload 6, 2) := by decide +kernel
theorem dX6_right_141 : decode cX6_right 141 = .ok (.iconst 1, 1) := by decide +kernel
theorem dX6_right_142 : decode cX6_right 142 = .ok (.iload 7, 2) := by decide +kernel
theorem dX6_right_144 : decode cX6_right 144 = .ok (.ishl, 1) := by decide +kernel
theorem dX6_right_145 : decode cX6_right 145 = .ok (.ior, 1) := by decide +kernel
theorem dX6_right_146 : decode cX6_right 146 = .ok (.istore 6, 2) := by decide +kernel
theorem dX6_right_148 : decode cX6_right 148 = .ok (.iinc 8 1, 3) := by decide +kernel
theorem dX6_right_151 : decode cX6_right 151 = .ok (.goto (-106), 3) := by decide +kernel
theorem dX6_right_154 : decode cX6_right 154 = .ok (.aload_n 0, 1) := by decide +kernel
theorem dX6_right_155 : decode cX6_right 155 = .ok (.getfield 25, 3) := by decide +kernel
theorem dX6_right_158 : decode cX6_right 158 = .ok (.iload 7, 2) := by decide +kernel
theorem dX6_right_160 : decode cX6_right 160 = .ok (.iaload, 1) := by decide +kernel
theorem dX6_right_161 : decode cX6_right 161 = .ok (.ireturn, 1) := by decide +kernel
theorem dX6_which_0 : decode cX6_which 0 = .ok (.aload_n 0, 1) := by decide +kernel
theorem dX6_which_1 : decode cX6_which 1 = .ok (.getfield 79, 3) := by decide +kernel
theorem dX6_which_4 : decode cX6_which 4 = .ok (.aload_n 0, 1) := by decide +kernel
theorem dX6_which_5 : decode cX6_which 5 = .ok (.getfield 82, 3) := by decide +kernel
theorem dX6_which_8 : decode cX6_which 8 = .ok (.if_icmp .eq 7, 3) := by decide +kernel
theorem dX6_which_11 : decode cX6_which 11 = .ok (.ldc2_w 121, 3) := by decide +kernel
theorem dX6_which_14 : decode cX6_which 14 = .ok (.lreturn, 1) := by decide +kernel
theorem dX6_which_15 : decode cX6_which 15 = .ok (.lconst 0, 1) := by decide +kernel
theorem dX6_which_16 : decode cX6_which 16 = .ok (.lstore_n 1, 1) := by decide +kernel
theorem dX6_which_17 : decode cX6_which 17 = .ok (.iconst 0, 1) := by decide +kernel
theorem dX6_which_18 : decode cX6_which 18 = .ok (.istore_n 3, 1) := by decide +kernel
theorem dX6_which_19 : decode cX6_which 19 = .ok (.iconst 0, 1) := by decide +kernel
theorem dX6_which_20 : decode cX6_which 20 = .ok (.istore 4, 2) := by decide +kernel
theorem dX6_which_22 : decode cX6_which 22 = .ok (.iload 4, 2) := by decide +kernel
theorem dX6_which_24 : decode cX6_which 24 = .ok (.aload_n 0, 1) := by decide +kernel
theorem dX6_which_25 : decode cX6_which 25 = .ok (.getfield 79, 3) := by decide +kernel
theorem dX6_which_28 : decode cX6_which 28 = .ok (.if_icmp .ge 121, 3) := by decide +kernel
theorem dX6_which_31 : decode cX6_which 31 = .ok (.aload_n 0, 1) := by decide +kernel
theorem dX6_which_32 : decode cX6_which 32 = .ok (.getfield 44, 3) := by decide +kernel
theorem dX6_which_35 : decode cX6_which 35 = .ok (.iload 4, 2) := by decide +kernel
theorem dX6_which_37 : decode cX6_which 37 = .ok (.iaload, 1) := by decide +kernel
theorem dX6_which_38 : decode cX6_which 38 = .ok (.istore 5, 2) := by decide +kernel
theorem dX6_which_40 : decode cX6_which 40 = .ok (.aload_n 0, 1) := by decide +kernel
theorem dX6_which_41 : decode cX6_which 41 = .ok (.getfield 19, 3) := by decide +kernel
theorem dX6_which_44 : decode cX6_which 44 = .ok (.iload 5, 2) := by decide +kernel
theorem dX6_which_46 : decode cX6_which 46 = .ok (.iaload, 1) := by decide +kernel
theorem dX6_which_47 : decode cX6_which 47 = .ok (.ifCond .ne 22, 3) := by decide +kernel
theorem dX6_which_50 : decode cX6_which 50 = .ok (.aload_n 0, 1) := by decide +kernel
theorem dX6_which_51 : decode cX6_which 51 = .ok (.getfield 34, 3) := by decide +kernel
theorem dX6_which_54 : decode cX6_which 54 = .ok (.aload_n 0, 1) := by decide +kernel
theorem dX6_which_55 : decode cX6_which 55 = .ok (.getfield 28, 3) := by decide +kernel
theorem dX6_which_58 : decode cX6_which 58 = .ok (.iload 5, 2) := by decide +kernel
theorem dX6_which_60 : decode cX6_which 60 = .ok (.iaload, 1) := by decide +kernel
theorem dX6_which_61 : decode cX6_which 61 = .ok (.iaload, 1) := by decide +kernel
theorem dX6_which_62 : decode cX6_which 62 = .ok (.iload_n 3, 1) := by decide +kernel
theorem dX6_which_63 : decode cX6_which 63 = .ok (.iconst (-1), 1) := by decide +kernel
theorem dX6_which_64 : decode cX6_which 64 = .ok (.ixor, 1) := by decide +kernel
theorem dX6_which_65 : decode cX6_which 65 = .ok (.iand, 1) := by decide +kernel
theorem dX6_which_66 : decode cX6_which 66 = .ok (.ifCond .eq 7, 3) := by decide +kernel
theorem dX6_which_69 : decode cX6_which 69 = .ok (.ldc2_w 121, 3) := by decide +kernel
theorem dX6_which_72 : decode cX6_which 72 = .ok (.lreturn, 1) := by decide +kernel
theorem dX6_which_73 : decode cX6_which 73 = .ok (.iconst 0, 1) := by decide +kernel
theorem dX6_which_74 : decode cX6_which 74 = .ok (.istore 6, 2) := by decide +kernel
theorem dX6_which_76 : decode cX6_which 76 = .ok (.iload 6, 2) := by decide +kernel
theorem dX6_which_78 : decode cX6_which 78 = .ok (.aload_n 0, 1) := by decide +kernel
theorem dX6_which_79 : decode cX6_which 79 = .ok (.getfield 28, 3) := by decide +kernel
theorem dX6_which_82 : decode cX6_which 82 = .ok (.iload 5, 2) := by decide +kernel
theorem dX6_which_84 : decode cX6_which 84 = .ok (.iaload, 1) := by decide +kernel
theorem dX6_which_85 : decode cX6_which 85 = .ok (.if_icmp .ge 46, 3) := by decide +kernel
theorem dX6_which_88 : decode cX6_which 88 = .ok (.iload_n 3, 1) := by decide +kernel
theorem dX6_which_89 : decode cX6_which 89 = .ok (.iload 6, 2) := by decide +kernel
theorem dX6_which_91 : decode cX6_which 91 = .ok (.ishr, 1) := by decide +kernel
theorem dX6_which_92 : decode cX6_which 92 = .ok (.iconst 1, 1) := by decide +kernel
theorem dX6_which_93 : decode cX6_which 93 = .ok (.iand, 1) := by decide +kernel
theorem dX6_which_94 : decode cX6_which 94 = .ok (.ifCond .ne 31, 3) := by decide +kernel
theorem dX6_which_97 : decode cX6_which 97 = .ok (.aload_n 0, 1) := by decide +kernel
theorem dX6_which_98 : decode cX6_which 98 = .ok (.getfield 34, 3) := by decide +kernel
theorem dX6_which_101 : decode cX6_which 101 = .ok (.iload 6, 2) := by decide +kernel
theorem dX6_which_103 : decode cX6_which 103 = .ok (.iaload, 1) := by decide +kernel
theorem dX6_which_104 : decode cX6_which 104 = .ok (.iload_n 3, 1) := by decide +kernel
theorem dX6_which_105 : decode cX6_which 105 = .ok (.iconst (-1), 1) := by decide +kernel
theorem dX6_which_106 : decode cX6_which 106 = .ok (.ixor, 1) := by decide +kernel
theorem dX6_which_107 : decode cX6_which 107 = .ok (.iand, 1) := by decide +kernel
theorem dX6_which_108 : decode cX6_which 108 = .ok (.ifCond .ne 17, 3) := by decide +kernel
theorem dX6_which_111 : decode cX6_which 111 = .ok (.lload_n 1, 1) := by decide +kernel
theorem dX6_which_112 : decode cX6_which 112 = .ok (.aload_n 0, 1) := by decide +kernel
theorem dX6_which_113 : decode cX6_which 113 = .ok (.getfield 37, 3) := by decide +kernel
theorem dX6_which_116 : decode cX6_which 116 = .ok (.iload_n 3, 1) := by decide +kernel
theorem dX6_which_117 : decode cX6_which 117 = .ok (.iconst 1, 1) := by decide +kernel
theorem dX6_which_118 : decode cX6_which 118 = .ok (.iload 6, 2) := by decide +kernel
theorem dX6_which_120 : decode cX6_which 120 = .ok (.ishl, 1) := by decide +kernel
theorem dX6_which_121 : decode cX6_which 121 = .ok (.ior, 1) := by decide +kernel
theorem dX6_which_122 : decode cX6_which 122 = .ok (.laload, 1) := by decide +kernel
theorem dX6_which_123 : decode cX6_which 123 = .ok (.ladd, 1) := by decide +kernel
theorem dX6_which_124 : decode cX6_which 124 = .ok (.lstore_n 1, 1) := by decide +kernel
theorem dX6_which_125 : decode cX6_which 125 = .ok (.iinc 6 1, 3) := by decide +kernel
theorem dX6_which_128 : decode cX6_which 128 = .ok (.goto (-52), 3) := by decide +kernel
theorem dX6_which_131 : decode cX6_which 131 = .ok (.iload_n 3, 1) := by decide +kernel
theorem dX6_which_132 : decode cX6_which 132 = .ok (.iconst 1, 1) := by decide +kernel
theorem dX6_which_133 : decode cX6_which 133 = .ok (.aload_n 0, 1) := by decide +kernel
theorem dX6_which_134 : decode cX6_which 134 = .ok (.getfield 28, 3) := by decide +kernel
theorem dX6_which_137 : decode cX6_which 137 = .ok (.iload 5, 2) := by decide +kernel
theorem dX6_which_139 : decode cX6_which 139 = .ok (.iaload, 1) := by decide +kernel
theorem dX6_which_140 : decode cX6_which 140 = .ok (.ishl, 1) := by decide +kernel
theorem dX6_which_141 : decode cX6_which 141 = .ok (.ior, 1) := by decide +kernel
theorem dX6_which_142 : decode cX6_which 142 = .ok (.istore_n 3, 1) := by decide +kernel
theorem dX6_which_143 : decode cX6_which 143 = .ok (.iinc 4 1, 3) := by decide +kernel
theorem dX6_which_146 : decode cX6_which 146 = .ok (.goto (-124), 3) := by decide +kernel
theorem dX6_which_149 : decode cX6_which 149 = .ok (.lload_n 1, 1) := by decide +kernel
theorem dX6_which_150 : decode cX6_which 150 = .ok (.lreturn, 1) := by decide +kernel
theorem dX6_placeOf_0 : decode cX6_placeOf 0 = .ok (.iconst 0, 1) := by decide +kernel
theorem dX6_placeOf_1 : decode cX6_placeOf 1 = .ok (.istore_n 2, 1) := by decide +kernel
theorem dX6_placeOf_2 : decode cX6_placeOf 2 = .ok (.iload_n 2, 1) := by decide +kernel
theorem dX6_placeOf_3 : decode cX6_placeOf 3 = .ok (.aload_n 0, 1) := by decide +kernel
theorem dX6_placeOf_4 : decode cX6_placeOf 4 = .ok (.getfield 79, 3) := by decide +kernel
theorem dX6_placeOf_7 : decode cX6_placeOf 7 = .ok (.if_icmp .ge 21, 3) := by decide +kernel
theorem dX6_placeOf_10 : decode cX6_placeOf 10 = .ok (.aload_n 0, 1) := by decide +kernel
theorem dX6_placeOf_11 : decode cX6_placeOf 11 = .ok (.getfield 44, 3) := by decide +kernel
theorem dX6_placeOf_14 : decode cX6_placeOf 14 = .ok (.iload_n 2, 1) := by decide +kernel
theorem dX6_placeOf_15 : decode cX6_placeOf 15 = .ok (.iaload, 1) := by decide +kernel
theorem dX6_placeOf_16 : decode cX6_placeOf 16 = .ok (.iload_n 1, 1) := by decide +kernel
theorem dX6_placeOf_17 : decode cX6_placeOf 17 = .ok (.if_icmp .ne 5, 3) := by decide +kernel
theorem dX6_placeOf_20 : decode cX6_placeOf 20 = .ok (.iload_n 2, 1) := by decide +kernel
theorem dX6_placeOf_21 : decode cX6_placeOf 21 = .ok (.ireturn, 1) := by decide +kernel
theorem dX6_placeOf_22 : decode cX6_placeOf 22 = .ok (.iinc 2 1, 3) := by decide +kernel
theorem dX6_placeOf_25 : decode cX6_placeOf 25 = .ok (.goto (-23), 3) := by decide +kernel
theorem dX6_placeOf_28 : decode cX6_placeOf 28 = .ok (.iconst (-1), 1) := by decide +kernel
theorem dX6_placeOf_29 : decode cX6_placeOf 29 = .ok (.ireturn, 1) := by decide +kernel
theorem dX6_insert_0 : decode cX6_insert 0 = .ok (.aload_n 0, 1) := by decide +kernel
theorem dX6_insert_1 : decode cX6_insert 1 = .ok (.getfield 79, 3) := by decide +kernel
theorem dX6_insert_4 : decode cX6_insert 4 = .ok (.istore_n 3, 1) := by decide +kernel
theorem dX6_insert_5 : decode cX6_insert 5 = .ok (.iload_n 3, 1) := by decide +kernel
theorem dX6_insert_6 : decode cX6_insert 6 = .ok (.iload_n 2, 1) := by decide +kernel
theorem dX6_insert_7 : decode cX6_insert 7 = .ok (.if_icmp .le 23, 3) := by decide +kernel
theorem dX6_insert_10 : decode cX6_insert 10 = .ok (.aload_n 0, 1) := by decide +kernel
theorem dX6_insert_11 : decode cX6_insert 11 = .ok (.getfield 44, 3) := by decide +kernel
theorem dX6_insert_14 : decode cX6_insert 14 = .ok (.iload_n 3, 1) := by decide +kernel
theorem dX6_insert_15 : decode cX6_insert 15 = .ok (.aload_n 0, 1) := by decide +kernel
theorem dX6_insert_16 : decode cX6_insert 16 = .ok (.getfield 44, 3) := by decide +kernel
theorem dX6_insert_19 : decode cX6_insert 19 = .ok (.iload_n 3, 1) := by decide +kernel
theorem dX6_insert_20 : decode cX6_insert 20 = .ok (.iconst 1, 1) := by decide +kernel
theorem dX6_insert_21 : decode cX6_insert 21 = .ok (.isub, 1) := by decide +kernel
theorem dX6_insert_22 : decode cX6_insert 22 = .ok (.iaload, 1) := by decide +kernel
theorem dX6_insert_23 : decode cX6_insert 23 = .ok (.iastore, 1) := by decide +kernel
theorem dX6_insert_24 : decode cX6_insert 24 = .ok (.iinc 3 (-1), 3) := by decide +kernel
theorem dX6_insert_27 : decode cX6_insert 27 = .ok (.goto (-22), 3) := by decide +kernel
theorem dX6_insert_30 : decode cX6_insert 30 = .ok (.aload_n 0, 1) := by decide +kernel
theorem dX6_insert_31 : decode cX6_insert 31 = .ok (.getfield 44, 3) := by decide +kernel
theorem dX6_insert_34 : decode cX6_insert 34 = .ok (.iload_n 2, 1) := by decide +kernel
theorem dX6_insert_35 : decode cX6_insert 35 = .ok (.iload_n 1, 1) := by decide +kernel
theorem dX6_insert_36 : decode cX6_insert 36 = .ok (.iastore, 1) := by decide +kernel
theorem dX6_insert_37 : decode cX6_insert 37 = .ok (.aload_n 0, 1) := by decide +kernel
theorem dX6_insert_38 : decode cX6_insert 38 = .ok (.dup, 1) := by decide +kernel
theorem dX6_insert_39 : decode cX6_insert 39 = .ok (.getfield 79, 3) := by decide +kernel
theorem dX6_insert_42 : decode cX6_insert 42 = .ok (.iconst 1, 1) := by decide +kernel
theorem dX6_insert_43 : decode cX6_insert 43 = .ok (.iadd, 1) := by decide +kernel
theorem dX6_insert_44 : decode cX6_insert 44 = .ok (.putfield 79, 3) := by decide +kernel
theorem dX6_insert_47 : decode cX6_insert 47 = .ok (.return_, 1) := by decide +kernel
theorem dX6_remove_0 : decode cX6_remove 0 = .ok (.aload_n 0, 1) := by decide +kernel
theorem dX6_remove_1 : decode cX6_remove 1 = .ok (.getfield 44, 3) := by decide +kernel
theorem dX6_remove_4 : decode cX6_remove 4 = .ok (.iload_n 1, 1) := by decide +kernel
theorem dX6_remove_5 : decode cX6_remove 5 = .ok (.iaload, 1) := by decide +kernel
theorem dX6_remove_6 : decode cX6_remove 6 = .ok (.istore_n 2, 1) := by decide +kernel
theorem dX6_remove_7 : decode cX6_remove 7 = .ok (.iload_n 1, 1) := by decide +kernel
theorem dX6_remove_8 : decode cX6_remove 8 = .ok (.istore_n 3, 1) := by decide +kernel
theorem dX6_remove_9 : decode cX6_remove 9 = .ok (.iload_n 3, 1) := by decide +kernel
theorem dX6_remove_10 : decode cX6_remove 10 = .ok (.aload_n 0, 1) := by decide +kernel
theorem dX6_remove_11 : decode cX6_remove 11 = .ok (.getfield 79, 3) := by decide +kernel
theorem dX6_remove_14 : decode cX6_remove 14 = .ok (.iconst 1, 1) := by decide +kernel
theorem dX6_remove_15 : decode cX6_remove 15 = .ok (.isub, 1) := by decide +kernel
theorem dX6_remove_16 : decode cX6_remove 16 = .ok (.if_icmp .ge 23, 3) := by decide +kernel
theorem dX6_remove_19 : decode cX6_remove 19 = .ok (.aload_n 0, 1) := by decide +kernel
theorem dX6_remove_20 : decode cX6_remove 20 = .ok (.getfield 44, 3) := by decide +kernel
theorem dX6_remove_23 : decode cX6_remove 23 = .ok (.iload_n 3, 1) := by decide +kernel
theorem dX6_remove_24 : decode cX6_remove 24 = .ok (.aload_n 0, 1) := by decide +kernel
theorem dX6_remove_25 : decode cX6_remove 25 = .ok (.getfield 44, 3) := by decide +kernel
theorem dX6_remove_28 : decode cX6_remove 28 = .ok (.iload_n 3, 1) := by decide +kernel
theorem dX6_remove_29 : decode cX6_remove 29 = .ok (.iconst 1, 1) := by decide +kernel
theorem dX6_remove_30 : decode cX6_remove 30 = .ok (.iadd, 1) := by decide +kernel
theorem dX6_remove_31 : decode cX6_remove 31 = .ok (.iaload, 1) := by decide +kernel
theorem dX6_remove_32 : decode cX6_remove 32 = .ok (.iastore, 1) := by decide +kernel
theorem dX6_remove_33 : decode cX6_remove 33 = .ok (.iinc 3 1, 3) := by decide +kernel
theorem dX6_remove_36 : decode cX6_remove 36 = .ok (.goto (-27), 3) := by decide +kernel
theorem dX6_remove_39 : decode cX6_remove 39 = .ok (.aload_n 0, 1) := by decide +kernel
theorem dX6_remove_40 : decode cX6_remove 40 = .ok (.dup, 1) := by decide +kernel
theorem dX6_remove_41 : decode cX6_remove 41 = .ok (.getfield 79, 3) := by decide +kernel
theorem dX6_remove_44 : decode cX6_remove 44 = .ok (.iconst 1, 1) := by decide +kernel
theorem dX6_remove_45 : decode cX6_remove 45 = .ok (.isub, 1) := by decide +kernel
theorem dX6_remove_46 : decode cX6_remove 46 = .ok (.putfield 79, 3) := by decide +kernel
theorem dX6_remove_49 : decode cX6_remove 49 = .ok (.iload_n 2, 1) := by decide +kernel
theorem dX6_remove_50 : decode cX6_remove 50 = .ok (.ireturn, 1) := by decide +kernel
set_option maxRecDepth 20000 in
theorem ggX6_lay_X6_isLine : GoodIn wsX6_lay wsX6_isLine := goodIn_r _ [6, 7, 8, 9, 5, 10, 20, 21, 22, 23, 24, 25, 26, 27, 28, 29, 30, 31, 32, 33, 34, 35, 36, 37, 38, 39, 40, 41, 42, 43, 44, 45, 46, 47, 48, 49, 50, 51, 52] (by decide +kernel) (by decide +kernel)
set_option maxRecDepth 20000 in
theorem gX6_lay_X6_isLine : GoodIn wsX6_lay (wsV RX6 92 RX6 yX6_isLine wsX6_isLine) := goodIn_app (goodIn_of _ (by decide +kernel)) ggX6_lay_X6_isLine
set_option maxRecDepth 20000 in
theorem ggX6_lay_X6_in : GoodIn wsX6_lay wsX6_in := goodIn_r _ [10] (by decide +kernel) (by decide +kernel)
set_option maxRecDepth 20000 in
theorem gX6_lay_X6_in : GoodIn wsX6_lay (va_wsS RX6 72 yX6_in wsX6_in) := goodIn_app (goodIn_of _ (by decide +kernel)) ggX6_lay_X6_in
set_option maxRecDepth 20000 in
theorem ggX6_lay_X6_placeOf : GoodIn wsX6_lay wsX6_placeOf := goodIn_r _ [14, 1, 15, 20, 21, 22, 23, 24, 25, 26, 27, 28, 29, 30, 31, 32, 33, 34, 35, 36, 37, 38, 39, 40, 41, 42, 43, 44, 45, 46, 47, 48, 49, 50, 51, 52] (by decide +kernel) (by decide +kernel)
set_option maxRecDepth 20000 in
theorem gX6_lay_X6_placeOf : GoodIn wsX6_lay (wsV RX6 123 RX6 yX6_placeOf wsX6_placeOf) := goodIn_app (goodIn_of _ (by decide +kernel)) ggX6_lay_X6_placeOf
set_option maxRecDepth 20000 in
theorem ggX6_lay_X6_insert : GoodIn wsX6_lay wsX6_insert := goodIn_r _ [19, 1, 15, 20, 21, 22, 23, 24, 25, 26, 27, 28, 29, 30, 31, 32, 33, 34, 35, 36, 37, 38, 39, 40, 41, 42, 43, 44, 45, 46, 47, 48, 49, 50, 51, 52] (by decide +kernel) (by decide +kernel)
set_option maxRecDepth 20000 in
theorem gX6_lay_X6_insert : GoodIn wsX6_lay (wsV RX6 127 RX6 yX6_insert wsX6_insert) := goodIn_app (goodIn_of _ (by decide +kernel)) ggX6_lay_X6_insert
theorem dX6_lay_0 : decode cX6_lay 0 = .ok (.aload_n 0, 1) := by decide +kernel
theorem dX6_lay_1 : decode cX6_lay 1 = .ok (.iload_n 1, 1) := by decide +kernel
theorem dX6_lay_2 : decode cX6_lay 2 = .ok (.invokevirtual 92, 3) := by decide +kernel
theorem dX6_lay_5 : decode cX6_lay 5 = .ok (.ifCond .ne 6, 3) := by decide +kernel
theorem dX6_lay_8 : decode cX6_lay 8 = .ok (.bipush (-101), 2) := by decide +kernel
theorem dX6_lay_10 : decode cX6_lay 10 = .ok (.ireturn, 1) := by decide +kernel
theorem dX6_lay_11 : decode cX6_lay 11 = .ok (.iload_n 2, 1) := by decide +kernel
theorem dX6_lay_12 : decode cX6_lay 12 = .ok (.iconst 0, 1) := by decide +kernel
theorem dX6_lay_13 : decode cX6_lay 13 = .ok (.aload_n 0, 1) := by decide +kernel
theorem dX6_lay_14 : decode cX6_lay 14 = .ok (.getfield 79, 3) := by decide +kernel
theorem dX6_lay_17 : decode cX6_lay 17 = .ok (.invokestatic 72, 3) := by decide +kernel
theorem dX6_lay_20 : decode cX6_lay 20 = .ok (.ifCond .ne 6, 3) := by decide +kernel
theorem dX6_lay_23 : decode cX6_lay 23 = .ok (.bipush (-102), 2) := by decide +kernel
theorem dX6_lay_25 : decode cX6_lay 25 = .ok (.ireturn, 1) := by decide +kernel
theorem dX6_lay_26 : decode cX6_lay 26 = .ok (.aload_n 0, 1) := by decide +kernel
theorem dX6_lay_27 : decode cX6_lay 27 = .ok (.iload_n 1, 1) := by decide +kernel
theorem dX6_lay_28 : decode cX6_lay 28 = .ok (.invokevirtual 123, 3) := by decide +kernel
theorem dX6_lay_31 : decode cX6_lay 31 = .ok (.iconst (-1), 1) := by decide +kernel
theorem dX6_lay_32 : decode cX6_lay 32 = .ok (.if_icmp .eq 6, 3) := by decide +kernel
theorem dX6_lay_35 : decode cX6_lay 35 = .ok (.bipush (-103), 2) := by decide +kernel
theorem dX6_lay_37 : decode cX6_lay 37 = .ok (.ireturn, 1) := by decide +kernel
theorem dX6_lay_38 : decode cX6_lay 38 = .ok (.aload_n 0, 1) := by decide +kernel
theorem dX6_lay_39 : decode cX6_lay 39 = .ok (.iload_n 1, 1) := by decide +kernel
theorem dX6_lay_40 : decode cX6_lay 40 = .ok (.iload_n 2, 1) := by decide +kernel
theorem dX6_lay_41 : decode cX6_lay 41 = .ok (.invokevirtual 127, 3) := by decide +kernel
theorem dX6_lay_44 : decode cX6_lay 44 = .ok (.aload_n 0, 1) := by decide +kernel
theorem dX6_lay_45 : decode cX6_lay 45 = .ok (.getfield 79, 3) := by decide +kernel
theorem dX6_lay_48 : decode cX6_lay 48 = .ok (.ireturn, 1) := by decide +kernel
set_option maxRecDepth 20000 in
theorem ggX6_take_X6_in : GoodIn wsX6_take wsX6_in := goodIn_r _ [5] (by decide +kernel) (by decide +kernel)
set_option maxRecDepth 20000 in
theorem gX6_take_X6_in : GoodIn wsX6_take (va_wsS RX6 72 yX6_in wsX6_in) := goodIn_app (goodIn_of _ (by decide +kernel)) ggX6_take_X6_in
set_option maxRecDepth 20000 in
theorem ggX6_take_X6_remove : GoodIn wsX6_take wsX6_remove := goodIn_r _ [9, 10, 1, 11, 12, 13, 14, 15, 16, 17, 18, 19, 20, 21, 22, 23, 24, 25, 26, 27, 28, 29, 30, 31, 32, 33, 34, 35, 36, 37, 38, 39, 40, 41, 42, 43] (by decide +kernel) (by decide +kernel)
set_option maxRecDepth 20000 in
theorem gX6_take_X6_remove : GoodIn wsX6_take (wsV RX6 131 RX6 yX6_remove wsX6_remove) := goodIn_app (goodIn_of _ (by decide +kernel)) ggX6_take_X6_remove
theorem dX6_take_0 : decode cX6_take 0 = .ok (.iload_n 1, 1) := by decide +kernel
theorem dX6_take_1 : decode cX6_take 1 = .ok (.iconst 0, 1) := by decide +kernel
theorem dX6_take_2 : decode cX6_take 2 = .ok (.aload_n 0, 1) := by decide +kernel
theorem dX6_take_3 : decode cX6_take 3 = .ok (.getfield 79, 3) := by decide +kernel
theorem dX6_take_6 : decode cX6_take 6 = .ok (.iconst 1, 1) := by decide +kernel
theorem dX6_take_7 : decode cX6_take 7 = .ok (.isub, 1) := by decide +kernel
theorem dX6_take_8 : decode cX6_take 8 = .ok (.invokestatic 72, 3) := by decide +kernel
theorem dX6_take_11 : decode cX6_take 11 = .ok (.ifCond .eq 11, 3) := by decide +kernel
theorem dX6_take_14 : decode cX6_take 14 = .ok (.aload_n 0, 1) := by decide +kernel
theorem dX6_take_15 : decode cX6_take 15 = .ok (.iload_n 1, 1) := by decide +kernel
theorem dX6_take_16 : decode cX6_take 16 = .ok (.invokevirtual 131, 3) := by decide +kernel
theorem dX6_take_19 : decode cX6_take 19 = .ok (.goto 5, 3) := by decide +kernel
theorem dX6_take_22 : decode cX6_take 22 = .ok (.bipush (-102), 2) := by decide +kernel
theorem dX6_take_24 : decode cX6_take 24 = .ok (.ireturn, 1) := by decide +kernel
set_option maxRecDepth 20000 in
theorem ggX6_move_X6_in : GoodIn wsX6_move wsX6_in := goodIn_r _ [5] (by decide +kernel) (by decide +kernel)
set_option maxRecDepth 20000 in
theorem gX6_move_X6_in : GoodIn wsX6_move (va_wsS RX6 72 yX6_in wsX6_in) := goodIn_app (goodIn_of _ (by decide +kernel)) ggX6_move_X6_in
set_option maxRecDepth 20000 in
theorem ggX6_move_X6_remove : GoodIn wsX6_move wsX6_remove := goodIn_r _ [9, 10, 1, 15, 16, 17, 18, 19, 20, 21, 22, 23, 24, 25, 26, 27, 28, 29, 30, 31, 32, 33, 34, 35, 36, 37, 38, 39, 40, 41, 42, 43, 44, 45, 46, 47] (by decide +kernel) (by decide +kernel)
set_option maxRecDepth 20000 in
theorem gX6_move_X6_remove : GoodIn wsX6_move (wsV RX6 131 RX6 yX6_remove wsX6_remove) := goodIn_app (goodIn_of _ (by decide +kernel)) ggX6_move_X6_remove
set_option maxRecDepth 20000 in
theorem ggX6_move_X6_insert : GoodIn wsX6_move wsX6_insert := goodIn_r _ [14, 1, 10, 15, 16, 17, 18, 19, 20, 21, 22, 23, 24, 25, 26, 27, 28, 29, 30, 31, 32, 33, 34, 35, 36, 37, 38, 39, 40, 41, 42, 43, 44, 45, 46, 47] (by decide +kernel) (by decide +kernel)
set_option maxRecDepth 20000 in
theorem gX6_move_X6_insert : GoodIn wsX6_move (wsV RX6 127 RX6 yX6_insert wsX6_insert) := goodIn_app (goodIn_of _ (by decide +kernel)) ggX6_move_X6_insert
theorem dX6_move_0 : decode cX6_move 0 = .ok (.iload_n 1, 1) := by decide +kernel
theorem dX6_move_1 : decode cX6_move 1 = .ok (.iconst 0, 1) := by decide +kernel
theorem dX6_move_2 : decode cX6_move 2 = .ok (.aload_n 0, 1) := by decide +kernel
theorem dX6_move_3 : decode cX6_move 3 = .ok (.getfield 79, 3) := by decide +kernel
theorem dX6_move_6 : decode cX6_move 6 = .ok (.iconst 1, 1) := by decide +kernel
theorem dX6_move_7 : decode cX6_move 7 = .ok (.isub, 1) := by decide +kernel
theorem dX6_move_8 : decode cX6_move 8 = .ok (.invokestatic 72, 3) := by decide +kernel
theorem dX6_move_11 : decode cX6_move 11 = .ok (.ifCond .eq 17, 3) := by decide +kernel
theorem dX6_move_14 : decode cX6_move 14 = .ok (.iload_n 2, 1) := by decide +kernel
theorem dX6_move_15 : decode cX6_move 15 = .ok (.iconst 0, 1) := by decide +kernel
theorem dX6_move_16 : decode cX6_move 16 = .ok (.aload_n 0, 1) := by decide +kernel
theorem dX6_move_17 : decode cX6_move 17 = .ok (.getfield 79, 3) := by decide +kernel
theorem dX6_move_20 : decode cX6_move 20 = .ok (.iconst 1, 1) := by decide +kernel
theorem dX6_move_21 : decode cX6_move 21 = .ok (.isub, 1) := by decide +kernel
theorem dX6_move_22 : decode cX6_move 22 = .ok (.invokestatic 72, 3) := by decide +kernel
theorem dX6_move_25 : decode cX6_move 25 = .ok (.ifCond .ne 6, 3) := by decide +kernel
theorem dX6_move_28 : decode cX6_move 28 = .ok (.bipush (-102), 2) := by decide +kernel
theorem dX6_move_30 : decode cX6_move 30 = .ok (.ireturn, 1) := by decide +kernel
theorem dX6_move_31 : decode cX6_move 31 = .ok (.aload_n 0, 1) := by decide +kernel
theorem dX6_move_32 : decode cX6_move 32 = .ok (.iload_n 1, 1) := by decide +kernel
theorem dX6_move_33 : decode cX6_move 33 = .ok (.invokevirtual 131, 3) := by decide +kernel
theorem dX6_move_36 : decode cX6_move 36 = .ok (.istore_n 3, 1) := by decide +kernel
theorem dX6_move_37 : decode cX6_move 37 = .ok (.aload_n 0, 1) := by decide +kernel
theorem dX6_move_38 : decode cX6_move 38 = .ok (.iload_n 3, 1) := by decide +kernel
theorem dX6_move_39 : decode cX6_move 39 = .ok (.iload_n 2, 1) := by decide +kernel
theorem dX6_move_40 : decode cX6_move 40 = .ok (.invokevirtual 127, 3) := by decide +kernel
theorem dX6_move_43 : decode cX6_move 43 = .ok (.iload_n 3, 1) := by decide +kernel
theorem dX6_move_44 : decode cX6_move 44 = .ok (.ireturn, 1) := by decide +kernel
theorem dX6_clear_0 : decode cX6_clear 0 = .ok (.aload_n 0, 1) := by decide +kernel
theorem dX6_clear_1 : decode cX6_clear 1 = .ok (.getfield 79, 3) := by decide +kernel
theorem dX6_clear_4 : decode cX6_clear 4 = .ok (.istore_n 1, 1) := by decide +kernel
theorem dX6_clear_5 : decode cX6_clear 5 = .ok (.aload_n 0, 1) := by decide +kernel
theorem dX6_clear_6 : decode cX6_clear 6 = .ok (.iconst 0, 1) := by decide +kernel
theorem dX6_clear_7 : decode cX6_clear 7 = .ok (.putfield 79, 3) := by decide +kernel
theorem dX6_clear_10 : decode cX6_clear 10 = .ok (.iload_n 1, 1) := by decide +kernel
theorem dX6_clear_11 : decode cX6_clear 11 = .ok (.ireturn, 1) := by decide +kernel
set_option maxRecDepth 20000 in
theorem ggX6_at_X6_in : GoodIn wsX6_at wsX6_in := goodIn_r _ [6] (by decide +kernel) (by decide +kernel)
set_option maxRecDepth 20000 in
theorem gX6_at_X6_in : GoodIn wsX6_at (va_wsS RX6 72 yX6_in wsX6_in) := goodIn_app (goodIn_of _ (by decide +kernel)) ggX6_at_X6_in
theorem dX6_at_0 : decode cX6_at 0 = .ok (.iload_n 1, 1) := by decide +kernel
theorem dX6_at_1 : decode cX6_at 1 = .ok (.iconst 0, 1) := by decide +kernel
theorem dX6_at_2 : decode cX6_at 2 = .ok (.aload_n 0, 1) := by decide +kernel
theorem dX6_at_3 : decode cX6_at 3 = .ok (.getfield 79, 3) := by decide +kernel
theorem dX6_at_6 : decode cX6_at 6 = .ok (.iconst 1, 1) := by decide +kernel
theorem dX6_at_7 : decode cX6_at 7 = .ok (.isub, 1) := by decide +kernel
theorem dX6_at_8 : decode cX6_at 8 = .ok (.invokestatic 72, 3) := by decide +kernel
theorem dX6_at_11 : decode cX6_at 11 = .ok (.ifCond .eq 12, 3) := by decide +kernel
theorem dX6_at_14 : decode cX6_at 14 = .ok (.aload_n 0, 1) := by decide +kernel
theorem dX6_at_15 : decode cX6_at 15 = .ok (.getfield 44, 3) := by decide +kernel
theorem dX6_at_18 : decode cX6_at 18 = .ok (.iload_n 1, 1) := by decide +kernel
theorem dX6_at_19 : decode cX6_at 19 = .ok (.iaload, 1) := by decide +kernel
theorem dX6_at_20 : decode cX6_at 20 = .ok (.goto 4, 3) := by decide +kernel
theorem dX6_at_23 : decode cX6_at 23 = .ok (.iconst (-1), 1) := by decide +kernel
theorem dX6_at_24 : decode cX6_at 24 = .ok (.ireturn, 1) := by decide +kernel
theorem dX6_size_0 : decode cX6_size 0 = .ok (.aload_n 0, 1) := by decide +kernel
theorem dX6_size_1 : decode cX6_size 1 = .ok (.getfield 79, 3) := by decide +kernel
theorem dX6_size_4 : decode cX6_size 4 = .ok (.ireturn, 1) := by decide +kernel
theorem dX6_does_0 : decode cX6_does 0 = .ok (.aload_n 0, 1) := by decide +kernel
theorem dX6_does_1 : decode cX6_does 1 = .ok (.getfield 13, 3) := by decide +kernel
theorem dX6_does_4 : decode cX6_does 4 = .ok (.iload_n 1, 1) := by decide +kernel
theorem dX6_does_5 : decode cX6_does 5 = .ok (.iaload, 1) := by decide +kernel
theorem dX6_does_6 : decode cX6_does 6 = .ok (.istore_n 2, 1) := by decide +kernel
theorem dX6_does_7 : decode cX6_does 7 = .ok (.aload_n 0, 1) := by decide +kernel
theorem dX6_does_8 : decode cX6_does 8 = .ok (.getfield 16, 3) := by decide +kernel
theorem dX6_does_11 : decode cX6_does 11 = .ok (.iload_n 1, 1) := by decide +kernel
theorem dX6_does_12 : decode cX6_does 12 = .ok (.iaload, 1) := by decide +kernel
theorem dX6_does_13 : decode cX6_does 13 = .ok (.istore_n 3, 1) := by decide +kernel
theorem dX6_does_14 : decode cX6_does 14 = .ok (.aload_n 0, 1) := by decide +kernel
theorem dX6_does_15 : decode cX6_does 15 = .ok (.getfield 7, 3) := by decide +kernel
theorem dX6_does_18 : decode cX6_does 18 = .ok (.iload_n 1, 1) := by decide +kernel
theorem dX6_does_19 : decode cX6_does 19 = .ok (.iaload, 1) := by decide +kernel
theorem dX6_does_20 : decode cX6_does 20 = .ok (.tableswitch 176 0 6 #[44, 54, 69, 91, 113, 176, 141], 44) := by decide +kernel
theorem dX6_does_64 : decode cX6_does 64 = .ok (.aload_n 0, 1) := by decide +kernel
theorem dX6_does_65 : decode cX6_does 65 = .ok (.getfield 47, 3) := by decide +kernel
theorem dX6_does_68 : decode cX6_does 68 = .ok (.iload_n 2, 1) := by decide +kernel
theorem dX6_does_69 : decode cX6_does 69 = .ok (.iload_n 3, 1) := by decide +kernel
theorem dX6_does_70 : decode cX6_does 70 = .ok (.iastore, 1) := by decide +kernel
theorem dX6_does_71 : decode cX6_does 71 = .ok (.goto 125, 3) := by decide +kernel
theorem dX6_does_74 : decode cX6_does 74 = .ok (.aload_n 0, 1) := by decide +kernel
theorem dX6_does_75 : decode cX6_does 75 = .ok (.getfield 47, 3) := by decide +kernel
theorem dX6_does_78 : decode cX6_does 78 = .ok (.iload_n 2, 1) := by decide +kernel
theorem dX6_does_79 : decode cX6_does 79 = .ok (.aload_n 0, 1) := by decide +kernel
theorem dX6_does_80 : decode cX6_does 80 = .ok (.getfield 47, 3) := by decide +kernel
theorem dX6_does_83 : decode cX6_does 83 = .ok (.iload_n 3, 1) := by decide +kernel
theorem dX6_does_84 : decode cX6_does 84 = .ok (.iaload, 1) := by decide +kernel
theorem dX6_does_85 : decode cX6_does 85 = .ok (.iastore, 1) := by decide +kernel
theorem dX6_does_86 : decode cX6_does 86 = .ok (.goto 110, 3) := by decide +kernel
theorem dX6_does_89 : decode cX6_does 89 = .ok (.aload_n 0, 1) := by decide +kernel
theorem dX6_does_90 : decode cX6_does 90 = .ok (.getfield 47, 3) := by decide +kernel
theorem dX6_does_93 : decode cX6_does 93 = .ok (.iload_n 2, 1) := by decide +kernel
theorem dX6_does_94 : decode cX6_does 94 = .ok (.aload_n 0, 1) := by decide +kernel
theorem dX6_does_95 : decode cX6_does 95 = .ok (.getfield 47, 3) := by decide +kernel
theorem dX6_does_98 : decode cX6_does 98 = .ok (.iload_n 2, 1) := by decide +kernel
theorem dX6_does_99 : decode cX6_does 99 = .ok (.iaload, 1) := by decide +kernel
theorem dX6_does_100 : decode cX6_does 100 = .ok (.aload_n 0, 1) := by decide +kernel
theorem dX6_does_101 : decode cX6_does 101 = .ok (.getfield 47, 3) := by decide +kernel
theorem dX6_does_104 : decode cX6_does 104 = .ok (.iload_n 3, 1) := by decide +kernel
theorem dX6_does_105 : decode cX6_does 105 = .ok (.iaload, 1) := by decide +kernel
theorem dX6_does_106 : decode cX6_does 106 = .ok (.iadd, 1) := by decide +kernel
theorem dX6_does_107 : decode cX6_does 107 = .ok (.iastore, 1) := by decide +kernel
theorem dX6_does_108 : decode cX6_does 108 = .ok (.goto 88, 3) := by decide +kernel
theorem dX6_does_111 : decode cX6_does 111 = .ok (.aload_n 0, 1) := by decide +kernel
theorem dX6_does_112 : decode cX6_does 112 = .ok (.getfield 47, 3) := by decide +kernel
theorem dX6_does_115 : decode cX6_does 115 = .ok (.iload_n 2, 1) := by decide +kernel
theorem dX6_does_116 : decode cX6_does 116 = .ok (.aload_n 0, 1) := by decide +kernel
theorem dX6_does_117 : decode cX6_does 117 = .ok (.getfield 47, 3) := by decide +kernel
theorem dX6_does_120 : decode cX6_does 120 = .ok (.iload_n 2, 1) := by decide +kernel
theorem dX6_does_121 : decode cX6_does 121 = .ok (.iaload, 1) := by decide +kernel
theorem dX6_does_122 : decode cX6_does 122 = .ok (.aload_n 0, 1) := by decide +kernel
theorem dX6_does_123 : decode cX6_does 123 = .ok (.getfield 47, 3) := by decide +kernel
theorem dX6_does_126 : decode cX6_does 126 = .ok (.iload_n 3, 1) := by decide +kernel
theorem dX6_does_127 : decode cX6_does 127 = .ok (.iaload, 1) := by decide +kernel
theorem dX6_does_128 : decode cX6_does 128 = .ok (.imul, 1) := by decide +kernel
theorem dX6_does_129 : decode cX6_does 129 = .ok (.iastore, 1) := by decide +kernel
theorem dX6_does_130 : decode cX6_does 130 = .ok (.goto 66, 3) := by decide +kernel
theorem dX6_does_133 : decode cX6_does 133 = .ok (.aload_n 0, 1) := by decide +kernel
theorem dX6_does_134 : decode cX6_does 134 = .ok (.getfield 50, 3) := by decide +kernel
theorem dX6_does_137 : decode cX6_does 137 = .ok (.aload_n 0, 1) := by decide +kernel
theorem dX6_does_138 : decode cX6_does 138 = .ok (.getfield 103, 3) := by decide +kernel
theorem dX6_does_141 : decode cX6_does 141 = .ok (.aload_n 0, 1) := by decide +kernel
theorem dX6_does_142 : decode cX6_does 142 = .ok (.getfield 47, 3) := by decide +kernel
theorem dX6_does_145 : decode cX6_does 145 = .ok (.iload_n 2, 1) := by decide +kernel
theorem dX6_does_146 : decode cX6_does 146 = .ok (.iaload, 1) := by decide +kernel
theorem dX6_does_147 : decode cX6_does 147 = .ok (.iastore, 1) := by decide +kernel
theorem dX6_does_148 : decode cX6_does 148 = .ok (.aload_n 0, 1) := by decide +kernel
theorem dX6_does_149 : decode cX6_does 149 = .ok (.dup, 1) := by decide +kernel
theorem dX6_does_150 : decode cX6_does 150 = .ok (.getfield 103, 3) := by decide +kernel
theorem dX6_does_153 : decode cX6_does 153 = .ok (.iconst 1, 1) := by decide +kernel
theorem dX6_does_154 : decode cX6_does 154 = .ok (.iadd, 1) := by decide +kernel
theorem dX6_does_155 : decode cX6_does 155 = .ok (.putfield 103, 3) := by decide +kernel
theorem dX6_does_158 : decode cX6_does 158 = .ok (.goto 38, 3) := by decide +kernel
theorem dX6_does_161 : decode cX6_does 161 = .ok (.aload_n 0, 1) := by decide +kernel
theorem dX6_does_162 : decode cX6_does 162 = .ok (.getfield 47, 3) := by decide +kernel
theorem dX6_does_165 : decode cX6_does 165 = .ok (.iload_n 2, 1) := by decide +kernel
theorem dX6_does_166 : decode cX6_does 166 = .ok (.aload_n 0, 1) := by decide +kernel
theorem dX6_does_167 : decode cX6_does 167 = .ok (.getfield 47, 3) := by decide +kernel
theorem dX6_does_170 : decode cX6_does 170 = .ok (.iload_n 3, 1) := by decide +kernel
theorem dX6_does_171 : decode cX6_does 171 = .ok (.iaload, 1) := by decide +kernel
theorem dX6_does_172 : decode cX6_does 172 = .ok (.ifCond .le 14, 3) := by decide +kernel
theorem dX6_does_175 : decode cX6_does 175 = .ok (.aload_n 0, 1) := by decide +kernel
theorem dX6_does_176 : decode cX6_does 176 = .ok (.getfield 47, 3) := by decide +kernel
theorem dX6_does_179 : decode cX6_does 179 = .ok (.iload_n 2, 1) := by decide +kernel
theorem dX6_does_180 : decode cX6_does 180 = .ok (.iaload, 1) := by decide +kernel
theorem dX6_does_181 : decode cX6_does 181 = .ok (.iconst 1, 1) := by decide +kernel
theorem dX6_does_182 : decode cX6_does 182 = .ok (.iadd, 1) := by decide +kernel
theorem dX6_does_183 : decode cX6_does 183 = .ok (.goto 9, 3) := by decide +kernel
theorem dX6_does_186 : decode cX6_does 186 = .ok (.aload_n 0, 1) := by decide +kernel
theorem dX6_does_187 : decode cX6_does 187 = .ok (.getfield 47, 3) := by decide +kernel
theorem dX6_does_190 : decode cX6_does 190 = .ok (.iload_n 2, 1) := by decide +kernel
theorem dX6_does_191 : decode cX6_does 191 = .ok (.iaload, 1) := by decide +kernel
theorem dX6_does_192 : decode cX6_does 192 = .ok (.iastore, 1) := by decide +kernel
theorem dX6_does_193 : decode cX6_does 193 = .ok (.goto 3, 3) := by decide +kernel
theorem dX6_does_196 : decode cX6_does 196 = .ok (.return_, 1) := by decide +kernel
set_option maxRecDepth 20000 in
theorem ggX6_runOf_X6_does : GoodIn wsX6_runOf wsX6_does := goodIn_r _ [12, 13, 14, 15, 1, 16, 3, 17, 18, 19, 20, 21, 22, 23, 24, 25, 26, 27, 28, 29, 30, 31, 32, 33, 34, 35, 36, 37, 38, 39, 40, 41, 42, 43, 44, 45, 46, 47, 48, 49] (by decide +kernel) (by decide +kernel)
set_option maxRecDepth 20000 in
theorem gX6_runOf_X6_does : GoodIn wsX6_runOf (wsV RX6 134 RX6 yX6_does wsX6_does) := goodIn_app (goodIn_of _ (by decide +kernel)) ggX6_runOf_X6_does
theorem dX6_runOf_0 : decode cX6_runOf 0 = .ok (.iconst 0, 1) := by decide +kernel
theorem dX6_runOf_1 : decode cX6_runOf 1 = .ok (.istore_n 3, 1) := by decide +kernel
theorem dX6_runOf_2 : decode cX6_runOf 2 = .ok (.iload_n 3, 1) := by decide +kernel
theorem dX6_runOf_3 : decode cX6_runOf 3 = .ok (.bipush 6, 2) := by decide +kernel
theorem dX6_runOf_5 : decode cX6_runOf 5 = .ok (.if_icmp .ge 26, 3) := by decide +kernel
theorem dX6_runOf_8 : decode cX6_runOf 8 = .ok (.aload_n 0, 1) := by decide +kernel
theorem dX6_runOf_9 : decode cX6_runOf 9 = .ok (.getfield 47, 3) := by decide +kernel
theorem dX6_runOf_12 : decode cX6_runOf 12 = .ok (.iload_n 3, 1) := by decide +kernel
theorem dX6_runOf_13 : decode cX6_runOf 13 = .ok (.aload_n 0, 1) := by decide +kernel
theorem dX6_runOf_14 : decode cX6_runOf 14 = .ok (.getfield 41, 3) := by decide +kernel
theorem dX6_runOf_17 : decode cX6_runOf 17 = .ok (.bipush 6, 2) := by decide +kernel
theorem dX6_runOf_19 : decode cX6_runOf 19 = .ok (.iload_n 1, 1) := by decide +kernel
theorem dX6_runOf_20 : decode cX6_runOf 20 = .ok (.imul, 1) := by decide +kernel
theorem dX6_runOf_21 : decode cX6_runOf 21 = .ok (.iload_n 3, 1) := by decide +kernel
theorem dX6_runOf_22 : decode cX6_runOf 22 = .ok (.iadd, 1) := by decide +kernel
theorem dX6_runOf_23 : decode cX6_runOf 23 = .ok (.iaload, 1) := by decide +kernel
theorem dX6_runOf_24 : decode cX6_runOf 24 = .ok (.iastore, 1) := by decide +kernel
theorem dX6_runOf_25 : decode cX6_runOf 25 = .ok (.iinc 3 1, 3) := by decide +kernel
theorem dX6_runOf_28 : decode cX6_runOf 28 = .ok (.goto (-26), 3) := by decide +kernel
theorem dX6_runOf_31 : decode cX6_runOf 31 = .ok (.aload_n 0, 1) := by decide +kernel
theorem dX6_runOf_32 : decode cX6_runOf 32 = .ok (.iconst 0, 1) := by decide +kernel
theorem dX6_runOf_33 : decode cX6_runOf 33 = .ok (.putfield 103, 3) := by decide +kernel
theorem dX6_runOf_36 : decode cX6_runOf 36 = .ok (.iconst 0, 1) := by decide +kernel
theorem dX6_runOf_37 : decode cX6_runOf 37 = .ok (.istore_n 3, 1) := by decide +kernel
theorem dX6_runOf_38 : decode cX6_runOf 38 = .ok (.iload_n 3, 1) := by decide +kernel
theorem dX6_runOf_39 : decode cX6_runOf 39 = .ok (.iload_n 2, 1) := by decide +kernel
theorem dX6_runOf_40 : decode cX6_runOf 40 = .ok (.ifCond .eq 10, 3) := by decide +kernel
theorem dX6_runOf_43 : decode cX6_runOf 43 = .ok (.aload_n 0, 1) := by decide +kernel
theorem dX6_runOf_44 : decode cX6_runOf 44 = .ok (.getfield 82, 3) := by decide +kernel
theorem dX6_runOf_47 : decode cX6_runOf 47 = .ok (.goto 7, 3) := by decide +kernel
theorem dX6_runOf_50 : decode cX6_runOf 50 = .ok (.aload_n 0, 1) := by decide +kernel
theorem dX6_runOf_51 : decode cX6_runOf 51 = .ok (.getfield 79, 3) := by decide +kernel
theorem dX6_runOf_54 : decode cX6_runOf 54 = .ok (.if_icmp .ge 32, 3) := by decide +kernel
theorem dX6_runOf_57 : decode cX6_runOf 57 = .ok (.aload_n 0, 1) := by decide +kernel
theorem dX6_runOf_58 : decode cX6_runOf 58 = .ok (.iload_n 2, 1) := by decide +kernel
theorem dX6_runOf_59 : decode cX6_runOf 59 = .ok (.ifCond .eq 12, 3) := by decide +kernel
theorem dX6_runOf_62 : decode cX6_runOf 62 = .ok (.aload_n 0, 1) := by decide +kernel
theorem dX6_runOf_63 : decode cX6_runOf 63 = .ok (.getfield 25, 3) := by decide +kernel
theorem dX6_runOf_66 : decode cX6_runOf 66 = .ok (.iload_n 3, 1) := by decide +kernel
theorem dX6_runOf_67 : decode cX6_runOf 67 = .ok (.iaload, 1) := by decide +kernel
theorem dX6_runOf_68 : decode cX6_runOf 68 = .ok (.goto 9, 3) := by decide +kernel
theorem dX6_runOf_71 : decode cX6_runOf 71 = .ok (.aload_n 0, 1) := by decide +kernel
theorem dX6_runOf_72 : decode cX6_runOf 72 = .ok (.getfield 44, 3) := by decide +kernel
theorem dX6_runOf_75 : decode cX6_runOf 75 = .ok (.iload_n 3, 1) := by decide +kernel
theorem dX6_runOf_76 : decode cX6_runOf 76 = .ok (.iaload, 1) := by decide +kernel
theorem dX6_runOf_77 : decode cX6_runOf 77 = .ok (.invokevirtual 134, 3) := by decide +kernel
theorem dX6_runOf_80 : decode cX6_runOf 80 = .ok (.iinc 3 1, 3) := by decide +kernel
theorem dX6_runOf_83 : decode cX6_runOf 83 = .ok (.goto (-45), 3) := by decide +kernel
theorem dX6_runOf_86 : decode cX6_runOf 86 = .ok (.return_, 1) := by decide +kernel
set_option maxRecDepth 20000 in
theorem ggX6_run_X6_in : GoodIn wsX6_run wsX6_in := goodIn_r _ [7] (by decide +kernel) (by decide +kernel)
set_option maxRecDepth 20000 in
theorem gX6_run_X6_in : GoodIn wsX6_run (va_wsS RX6 72 yX6_in wsX6_in) := goodIn_app (goodIn_of _ (by decide +kernel)) ggX6_run_X6_in
set_option maxRecDepth 20000 in
theorem ggX6_run_X6_runOf : GoodIn wsX6_run wsX6_runOf := goodIn_r _ [11, 12, 13, 3, 14, 15, 16, 17, 18, 19, 20, 6, 21, 22, 23, 24, 25, 26, 27, 28, 29, 30, 31, 32, 33, 34, 35, 36, 37, 38, 39, 40, 41, 42, 43, 44, 45, 46, 47, 48, 49, 50, 51, 52, 53, 54, 55, 56, 57, 58] (by decide +kernel) (by decide +kernel)
set_option maxRecDepth 20000 in
theorem gX6_run_X6_runOf : GoodIn wsX6_run (wsV RX6 138 RX6 yX6_runOf wsX6_runOf) := goodIn_app (goodIn_of _ (by decide +kernel)) ggX6_run_X6_runOf
theorem dX6_run_0 : decode cX6_run 0 = .ok (.iload_n 1, 1) := by decide +kernel
theorem dX6_run_1 : decode cX6_run 1 = .ok (.iconst 0, 1) := by decide +kernel
theorem dX6_run_2 : decode cX6_run 2 = .ok (.aload_n 0, 1) := by decide +kernel
theorem dX6_run_3 : decode cX6_run 3 = .ok (.getfield 96, 3) := by decide +kernel
theorem dX6_run_6 : decode cX6_run 6 = .ok (.iconst 1, 1) := by decide +kernel
theorem dX6_run_7 : decode cX6_run 7 = .ok (.isub, 1) := by decide +kernel
theorem dX6_run_8 : decode cX6_run 8 = .ok (.invokestatic 72, 3) := by decide +kernel
theorem dX6_run_11 : decode cX6_run 11 = .ok (.ifCond .ne 6, 3) := by decide +kernel
theorem dX6_run_14 : decode cX6_run 14 = .ok (.bipush (-101), 2) := by decide +kernel
theorem dX6_run_16 : decode cX6_run 16 = .ok (.ireturn, 1) := by decide +kernel
theorem dX6_run_17 : decode cX6_run 17 = .ok (.aload_n 0, 1) := by decide +kernel
theorem dX6_run_18 : decode cX6_run 18 = .ok (.iconst 1, 1) := by decide +kernel
theorem dX6_run_19 : decode cX6_run 19 = .ok (.putfield 99, 3) := by decide +kernel
theorem dX6_run_22 : decode cX6_run 22 = .ok (.aload_n 0, 1) := by decide +kernel
theorem dX6_run_23 : decode cX6_run 23 = .ok (.iload_n 1, 1) := by decide +kernel
theorem dX6_run_24 : decode cX6_run 24 = .ok (.iload_n 2, 1) := by decide +kernel
theorem dX6_run_25 : decode cX6_run 25 = .ok (.invokevirtual 138, 3) := by decide +kernel
theorem dX6_run_28 : decode cX6_run 28 = .ok (.aload_n 0, 1) := by decide +kernel
theorem dX6_run_29 : decode cX6_run 29 = .ok (.getfield 103, 3) := by decide +kernel
theorem dX6_run_32 : decode cX6_run 32 = .ok (.ireturn, 1) := by decide +kernel
set_option maxRecDepth 20000 in
theorem ggX6_printed_X6_in : GoodIn wsX6_printed wsX6_in := goodIn_r _ [6] (by decide +kernel) (by decide +kernel)
set_option maxRecDepth 20000 in
theorem gX6_printed_X6_in : GoodIn wsX6_printed (va_wsS RX6 72 yX6_in wsX6_in) := goodIn_app (goodIn_of _ (by decide +kernel)) ggX6_printed_X6_in
theorem dX6_printed_0 : decode cX6_printed 0 = .ok (.iload_n 1, 1) := by decide +kernel
theorem dX6_printed_1 : decode cX6_printed 1 = .ok (.iconst 0, 1) := by decide +kernel
theorem dX6_printed_2 : decode cX6_printed 2 = .ok (.aload_n 0, 1) := by decide +kernel
theorem dX6_printed_3 : decode cX6_printed 3 = .ok (.getfield 103, 3) := by decide +kernel
theorem dX6_printed_6 : decode cX6_printed 6 = .ok (.iconst 1, 1) := by decide +kernel
theorem dX6_printed_7 : decode cX6_printed 7 = .ok (.isub, 1) := by decide +kernel
theorem dX6_printed_8 : decode cX6_printed 8 = .ok (.invokestatic 72, 3) := by decide +kernel
theorem dX6_printed_11 : decode cX6_printed 11 = .ok (.ifCond .eq 12, 3) := by decide +kernel
theorem dX6_printed_14 : decode cX6_printed 14 = .ok (.aload_n 0, 1) := by decide +kernel
theorem dX6_printed_15 : decode cX6_printed 15 = .ok (.getfield 50, 3) := by decide +kernel
theorem dX6_printed_18 : decode cX6_printed 18 = .ok (.iload_n 1, 1) := by decide +kernel
theorem dX6_printed_19 : decode cX6_printed 19 = .ok (.iaload, 1) := by decide +kernel
theorem dX6_printed_20 : decode cX6_printed 20 = .ok (.goto 4, 3) := by decide +kernel
theorem dX6_printed_23 : decode cX6_printed 23 = .ok (.iconst 0, 1) := by decide +kernel
theorem dX6_printed_24 : decode cX6_printed 24 = .ok (.ireturn, 1) := by decide +kernel
set_option maxRecDepth 20000 in
theorem ggX6_value_X6_in : GoodIn wsX6_value wsX6_in := goodIn_r _ [6] (by decide +kernel) (by decide +kernel)
set_option maxRecDepth 20000 in
theorem gX6_value_X6_in : GoodIn wsX6_value (va_wsS RX6 72 yX6_in wsX6_in) := goodIn_app (goodIn_of _ (by decide +kernel)) ggX6_value_X6_in
theorem dX6_value_0 : decode cX6_value 0 = .ok (.aload_n 0, 1) := by decide +kernel
theorem dX6_value_1 : decode cX6_value 1 = .ok (.getfield 99, 3) := by decide +kernel
theorem dX6_value_4 : decode cX6_value 4 = .ok (.ifCond .eq 21, 3) := by decide +kernel
theorem dX6_value_7 : decode cX6_value 7 = .ok (.iload_n 1, 1) := by decide +kernel
theorem dX6_value_8 : decode cX6_value 8 = .ok (.iconst 0, 1) := by decide +kernel
theorem dX6_value_9 : decode cX6_value 9 = .ok (.iconst 5, 1) := by decide +kernel
theorem dX6_value_10 : decode cX6_value 10 = .ok (.invokestatic 72, 3) := by decide +kernel
theorem dX6_value_13 : decode cX6_value 13 = .ok (.ifCond .eq 12, 3) := by decide +kernel
theorem dX6_value_16 : decode cX6_value 16 = .ok (.aload_n 0, 1) := by decide +kernel
theorem dX6_value_17 : decode cX6_value 17 = .ok (.getfield 47, 3) := by decide +kernel
theorem dX6_value_20 : decode cX6_value 20 = .ok (.iload_n 1, 1) := by decide +kernel
theorem dX6_value_21 : decode cX6_value 21 = .ok (.iaload, 1) := by decide +kernel
theorem dX6_value_22 : decode cX6_value 22 = .ok (.goto 4, 3) := by decide +kernel
theorem dX6_value_25 : decode cX6_value 25 = .ok (.iconst 0, 1) := by decide +kernel
theorem dX6_value_26 : decode cX6_value 26 = .ok (.ireturn, 1) := by decide +kernel
set_option maxRecDepth 20000 in
theorem ggX6_alike_X6_runOf : GoodIn wsX6_alike wsX6_runOf := goodIn_r _ [12, 3, 13, 1, 14, 15, 16, 17, 18, 19, 20, 11, 21, 22, 23, 24, 5, 25, 26, 27, 28, 29, 30, 31, 32, 33, 34, 35, 36, 37, 38, 39, 40, 41, 42, 43, 44, 45, 46, 47, 48, 49, 50, 51, 52, 53, 54, 55, 56, 57] (by decide +kernel) (by decide +kernel)
set_option maxRecDepth 20000 in
theorem gX6_alike_X6_runOf : GoodIn wsX6_alike (wsV RX6 138 RX6 yX6_runOf wsX6_runOf) := goodIn_app (goodIn_of _ (by decide +kernel)) ggX6_alike_X6_runOf
theorem dX6_alike_0 : decode cX6_alike 0 = .ok (.aload_n 0, 1) := by decide +kernel
theorem dX6_alike_1 : decode cX6_alike 1 = .ok (.getfield 103, 3) := by decide +kernel
theorem dX6_alike_4 : decode cX6_alike 4 = .ok (.istore_n 1, 1) := by decide +kernel
theorem dX6_alike_5 : decode cX6_alike 5 = .ok (.iconst 0, 1) := by decide +kernel
theorem dX6_alike_6 : decode cX6_alike 6 = .ok (.istore_n 2, 1) := by decide +kernel
theorem dX6_alike_7 : decode cX6_alike 7 = .ok (.iload_n 2, 1) := by decide +kernel
theorem dX6_alike_8 : decode cX6_alike 8 = .ok (.bipush 6, 2) := by decide +kernel
theorem dX6_alike_10 : decode cX6_alike 10 = .ok (.if_icmp .ge 21, 3) := by decide +kernel
theorem dX6_alike_13 : decode cX6_alike 13 = .ok (.aload_n 0, 1) := by decide +kernel
theorem dX6_alike_14 : decode cX6_alike 14 = .ok (.getfield 53, 3) := by decide +kernel
theorem dX6_alike_17 : decode cX6_alike 17 = .ok (.iload_n 2, 1) := by decide +kernel
theorem dX6_alike_18 : decode cX6_alike 18 = .ok (.aload_n 0, 1) := by decide +kernel
theorem dX6_alike_19 : decode cX6_alike 19 = .ok (.getfield 47, 3) := by decide +kernel
theorem dX6_alike_22 : decode cX6_alike 22 = .ok (.iload_n 2, 1) := by decide +kernel
theorem dX6_alike_23 : decode cX6_alike 23 = .ok (.iaload, 1) := by decide +kernel
theorem dX6_alike_24 : decode cX6_alike 24 = .ok (.iastore, 1) := by decide +kernel
theorem dX6_alike_25 : decode cX6_alike 25 = .ok (.iinc 2 1, 3) := by decide +kernel
theorem dX6_alike_28 : decode cX6_alike 28 = .ok (.goto (-21), 3) := by decide +kernel
theorem dX6_alike_31 : decode cX6_alike 31 = .ok (.iconst 0, 1) := by decide +kernel
theorem dX6_alike_32 : decode cX6_alike 32 = .ok (.istore_n 2, 1) := by decide +kernel
theorem dX6_alike_33 : decode cX6_alike 33 = .ok (.iload_n 2, 1) := by decide +kernel
theorem dX6_alike_34 : decode cX6_alike 34 = .ok (.bipush 16, 2) := by decide +kernel
theorem dX6_alike_36 : decode cX6_alike 36 = .ok (.if_icmp .ge 21, 3) := by decide +kernel
theorem dX6_alike_39 : decode cX6_alike 39 = .ok (.aload_n 0, 1) := by decide +kernel
theorem dX6_alike_40 : decode cX6_alike 40 = .ok (.getfield 56, 3) := by decide +kernel
theorem dX6_alike_43 : decode cX6_alike 43 = .ok (.iload_n 2, 1) := by decide +kernel
theorem dX6_alike_44 : decode cX6_alike 44 = .ok (.aload_n 0, 1) := by decide +kernel
theorem dX6_alike_45 : decode cX6_alike 45 = .ok (.getfield 50, 3) := by decide +kernel
theorem dX6_alike_48 : decode cX6_alike 48 = .ok (.iload_n 2, 1) := by decide +kernel
theorem dX6_alike_49 : decode cX6_alike 49 = .ok (.iaload, 1) := by decide +kernel
theorem dX6_alike_50 : decode cX6_alike 50 = .ok (.iastore, 1) := by decide +kernel
theorem dX6_alike_51 : decode cX6_alike 51 = .ok (.iinc 2 1, 3) := by decide +kernel
theorem dX6_alike_54 : decode cX6_alike 54 = .ok (.goto (-21), 3) := by decide +kernel
theorem dX6_alike_57 : decode cX6_alike 57 = .ok (.iconst (-1), 1) := by decide +kernel
theorem dX6_alike_58 : decode cX6_alike 58 = .ok (.istore_n 2, 1) := by decide +kernel
theorem dX6_alike_59 : decode cX6_alike 59 = .ok (.iconst 0, 1) := by decide +kernel
theorem dX6_alike_60 : decode cX6_alike 60 = .ok (.istore_n 3, 1) := by decide +kernel
theorem dX6_alike_61 : decode cX6_alike 61 = .ok (.iload_n 3, 1) := by decide +kernel
theorem dX6_alike_62 : decode cX6_alike 62 = .ok (.aload_n 0, 1) := by decide +kernel
theorem dX6_alike_63 : decode cX6_alike 63 = .ok (.getfield 96, 3) := by decide +kernel
theorem dX6_alike_66 : decode cX6_alike 66 = .ok (.if_icmp .ge 134, 3) := by decide +kernel
theorem dX6_alike_69 : decode cX6_alike 69 = .ok (.iload_n 2, 1) := by decide +kernel
theorem dX6_alike_70 : decode cX6_alike 70 = .ok (.iconst (-1), 1) := by decide +kernel
theorem dX6_alike_71 : decode cX6_alike 71 = .ok (.if_icmp .ne 129, 3) := by decide +kernel
theorem dX6_alike_74 : decode cX6_alike 74 = .ok (.aload_n 0, 1) := by decide +kernel
theorem dX6_alike_75 : decode cX6_alike 75 = .ok (.iload_n 3, 1) := by decide +kernel
theorem dX6_alike_76 : decode cX6_alike 76 = .ok (.iconst 1, 1) := by decide +kernel
theorem dX6_alike_77 : decode cX6_alike 77 = .ok (.invokevirtual 138, 3) := by decide +kernel
theorem dX6_alike_80 : decode cX6_alike 80 = .ok (.aload_n 0, 1) := by decide +kernel
theorem dX6_alike_81 : decode cX6_alike 81 = .ok (.getfield 103, 3) := by decide +kernel
theorem dX6_alike_84 : decode cX6_alike 84 = .ok (.istore 4, 2) := by decide +kernel
theorem dX6_alike_86 : decode cX6_alike 86 = .ok (.iconst 0, 1) := by decide +kernel
theorem dX6_alike_87 : decode cX6_alike 87 = .ok (.istore 5, 2) := by decide +kernel
theorem dX6_alike_89 : decode cX6_alike 89 = .ok (.iload 5, 2) := by decide +kernel
theorem dX6_alike_91 : decode cX6_alike 91 = .ok (.iload 4, 2) := by decide +kernel
theorem dX6_alike_93 : decode cX6_alike 93 = .ok (.if_icmp .ge 23, 3) := by decide +kernel
theorem dX6_alike_96 : decode cX6_alike 96 = .ok (.aload_n 0, 1) := by decide +kernel
theorem dX6_alike_97 : decode cX6_alike 97 = .ok (.getfield 59, 3) := by decide +kernel
theorem dX6_alike_100 : decode cX6_alike 100 = .ok (.iload 5, 2) := by decide +kernel
theorem dX6_alike_102 : decode cX6_alike 102 = .ok (.aload_n 0, 1) := by decide +kernel
theorem dX6_alike_103 : decode cX6_alike 103 = .ok (.getfield 50, 3) := by decide +kernel
theorem dX6_alike_106 : decode cX6_alike 106 = .ok (.iload 5, 2) := by decide +kernel
theorem dX6_alike_108 : decode cX6_alike 108 = .ok (.iaload, 1) := by decide +kernel
theorem dX6_alike_109 : decode cX6_alike 109 = .ok (.iastore, 1) := by decide +kernel
theorem dX6_alike_110 : decode cX6_alike 110 = .ok (.iinc 5 1, 3) := by decide +kernel
theorem dX6_alike_113 : decode cX6_alike 113 = .ok (.goto (-24), 3) := by decide +kernel
theorem dX6_alike_116 : decode cX6_alike 116 = .ok (.aload_n 0, 1) := by decide +kernel
theorem dX6_alike_117 : decode cX6_alike 117 = .ok (.iload_n 3, 1) := by decide +kernel
theorem dX6_alike_118 : decode cX6_alike 118 = .ok (.iconst 0, 1) := by decide +kernel
theorem dX6_alike_119 : decode cX6_alike 119 = .ok (.invokevirtual 138, 3) := by decide +kernel
theorem dX6_alike_122 : decode cX6_alike 122 = .ok (.iload 4, 2) := by decide +kernel
theorem dX6_alike_124 : decode cX6_alike 124 = .ok (.aload_n 0, 1) := by decide +kernel
theorem dX6_alike_125 : decode cX6_alike 125 = .ok (.getfield 103, 3) := by decide +kernel
theorem dX6_alike_128 : decode cX6_alike 128 = .ok (.if_icmp .ne 7, 3) := by decide +kernel
theorem dX6_alike_131 : decode cX6_alike 131 = .ok (.iconst 1, 1) := by decide +kernel
theorem dX6_alike_132 : decode cX6_alike 132 = .ok (.goto 4, 3) := by decide +kernel
theorem dX6_alike_135 : decode cX6_alike 135 = .ok (.iconst 0, 1) := by decide +kernel
theorem dX6_alike_136 : decode cX6_alike 136 = .ok (.istore 5, 2) := by decide +kernel
theorem dX6_alike_138 : decode cX6_alike 138 = .ok (.iconst 0, 1) := by decide +kernel
theorem dX6_alike_139 : decode cX6_alike 139 = .ok (.istore 6, 2) := by decide +kernel
theorem dX6_alike_141 : decode cX6_alike 141 = .ok (.iload 6, 2) := by decide +kernel
theorem dX6_alike_143 : decode cX6_alike 143 = .ok (.iload 4, 2) := by decide +kernel
theorem dX6_alike_145 : decode cX6_alike 145 = .ok (.if_icmp .ge 38, 3) := by decide +kernel
theorem dX6_alike_148 : decode cX6_alike 148 = .ok (.iload 5, 2) := by decide +kernel
theorem dX6_alike_150 : decode cX6_alike 150 = .ok (.ifCond .eq 33, 3) := by decide +kernel
theorem dX6_alike_153 : decode cX6_alike 153 = .ok (.aload_n 0, 1) := by decide +kernel
theorem dX6_alike_154 : decode cX6_alike 154 = .ok (.getfield 59, 3) := by decide +kernel
theorem dX6_alike_157 : decode cX6_alike 157 = .ok (.iload 6, 2) := by decide +kernel
theorem dX6_alike_159 : decode cX6_alike 159 = .ok (.iaload, 1) := by decide +kernel
theorem dX6_alike_160 : decode cX6_alike 160 = .ok (.aload_n 0, 1) := by decide +kernel
theorem dX6_alike_161 : decode cX6_alike 161 = .ok (.getfield 50, 3) := by decide +kernel
theorem dX6_alike_164 : decode cX6_alike 164 = .ok (.iload 6, 2) := by decide +kernel
theorem dX6_alike_166 : decode cX6_alike 166 = .ok (.iaload, 1) := by decide +kernel
theorem dX6_alike_167 : decode cX6_alike 167 = .ok (.if_icmp .ne 7, 3) := by decide +kernel
theorem dX6_alike_170 : decode cX6_alike 170 = .ok (.iconst 1, 1) := by decide +kernel
theorem dX6_alike_171 : decode cX6_alike 171 = .ok (.goto 4, 3) := by decide +kernel
theorem dX6_alike_174 : decode cX6_alike 174 = .ok (.iconst 0, 1) := by decide +kernel
theorem dX6_alike_175 : decode cX6_alike 175 = .ok (.istore 5, 2) := by decide +kernel
theorem dX6_alike_177 : decode cX6_alike 177 = .ok (.iinc 6 1, 3) := by decide +kernel
theorem dX6_alike_180 : decode cX6_alike 180 = .ok (.goto (-39), 3) := by decide +kernel
theorem dX6_alike_183 : decode cX6_alike 183 = .ok (.iload 5, 2) := by decide +kernel
theorem dX6_alike_185 : decode cX6_alike 185 = .ok (.ifCond .eq 7, 3) := by decide +kernel
theorem dX6_alike_188 : decode cX6_alike 188 = .ok (.iconst (-1), 1) := by decide +kernel
theorem dX6_alike_189 : decode cX6_alike 189 = .ok (.goto 4, 3) := by decide +kernel
theorem dX6_alike_192 : decode cX6_alike 192 = .ok (.iload_n 3, 1) := by decide +kernel
theorem dX6_alike_193 : decode cX6_alike 193 = .ok (.istore_n 2, 1) := by decide +kernel
theorem dX6_alike_194 : decode cX6_alike 194 = .ok (.iinc 3 1, 3) := by decide +kernel
theorem dX6_alike_197 : decode cX6_alike 197 = .ok (.goto (-136), 3) := by decide +kernel
theorem dX6_alike_200 : decode cX6_alike 200 = .ok (.aload_n 0, 1) := by decide +kernel
theorem dX6_alike_201 : decode cX6_alike 201 = .ok (.iload_n 1, 1) := by decide +kernel
theorem dX6_alike_202 : decode cX6_alike 202 = .ok (.putfield 103, 3) := by decide +kernel
theorem dX6_alike_205 : decode cX6_alike 205 = .ok (.iconst 0, 1) := by decide +kernel
theorem dX6_alike_206 : decode cX6_alike 206 = .ok (.istore_n 3, 1) := by decide +kernel
theorem dX6_alike_207 : decode cX6_alike 207 = .ok (.iload_n 3, 1) := by decide +kernel
theorem dX6_alike_208 : decode cX6_alike 208 = .ok (.bipush 6, 2) := by decide +kernel
theorem dX6_alike_210 : decode cX6_alike 210 = .ok (.if_icmp .ge 21, 3) := by decide +kernel
theorem dX6_alike_213 : decode cX6_alike 213 = .ok (.aload_n 0, 1) := by decide +kernel
theorem dX6_alike_214 : decode cX6_alike 214 = .ok (.getfield 47, 3) := by decide +kernel
theorem dX6_alike_217 : decode cX6_alike 217 = .ok (.iload_n 3, 1) := by decide +kernel
theorem dX6_alike_218 : decode cX6_alike 218 = .ok (.aload_n 0, 1) := by decide +kernel
theorem dX6_alike_219 : decode cX6_alike 219 = .ok (.getfield 53, 3) := by decide +kernel
theorem dX6_alike_222 : decode cX6_alike 222 = .ok (.iload_n 3, 1) := by decide +kernel
theorem dX6_alike_223 : decode cX6_alike 223 = .ok (.iaload, 1) := by decide +kernel
theorem dX6_alike_224 : decode cX6_alike 224 = .ok (.iastore, 1) := by decide +kernel
theorem dX6_alike_225 : decode cX6_alike 225 = .ok (.iinc 3 1, 3) := by decide +kernel
theorem dX6_alike_228 : decode cX6_alike 228 = .ok (.goto (-21), 3) := by decide +kernel
theorem dX6_alike_231 : decode cX6_alike 231 = .ok (.iconst 0, 1) := by decide +kernel
theorem dX6_alike_232 : decode cX6_alike 232 = .ok (.istore_n 3, 1) := by decide +kernel
theorem dX6_alike_233 : decode cX6_alike 233 = .ok (.iload_n 3, 1) := by decide +kernel
theorem dX6_alike_234 : decode cX6_alike 234 = .ok (.bipush 16, 2) := by decide +kernel
theorem dX6_alike_236 : decode cX6_alike 236 = .ok (.if_icmp .ge 21, 3) := by decide +kernel
theorem dX6_alike_239 : decode cX6_alike 239 = .ok (.aload_n 0, 1) := by decide +kernel
theorem dX6_alike_240 : decode cX6_alike 240 = .ok (.getfield 50, 3) := by decide +kernel
theorem dX6_alike_243 : decode cX6_alike 243 = .ok (.iload_n 3, 1) := by decide +kernel
theorem dX6_alike_244 : decode cX6_alike 244 = .ok (.aload_n 0, 1) := by decide +kernel
theorem dX6_alike_245 : decode cX6_alike 245 = .ok (.getfield 56, 3) := by decide +kernel
theorem dX6_alike_248 : decode cX6_alike 248 = .ok (.iload_n 3, 1) := by decide +kernel
theorem dX6_alike_249 : decode cX6_alike 249 = .ok (.iaload, 1) := by decide +kernel
theorem dX6_alike_250 : decode cX6_alike 250 = .ok (.iastore, 1) := by decide +kernel
theorem dX6_alike_251 : decode cX6_alike 251 = .ok (.iinc 3 1, 3) := by decide +kernel
theorem dX6_alike_254 : decode cX6_alike 254 = .ok (.goto (-21), 3) := by decide +kernel
theorem dX6_alike_257 : decode cX6_alike 257 = .ok (.iload_n 2, 1) := by decide +kernel
theorem dX6_alike_258 : decode cX6_alike 258 = .ok (.ireturn, 1) := by decide +kernel
set_option maxRecDepth 20000 in
theorem ggX6_takenFor_X6_placeOf : GoodIn wsX6_takenFor wsX6_placeOf := goodIn_r _ [9, 10, 1, 11, 12, 13, 14, 15, 16, 17, 18, 19, 20, 21, 22, 23, 24, 25, 26, 27, 28, 29, 30, 31, 32, 33, 34, 35, 36, 37, 38, 39, 40, 41, 42, 43] (by decide +kernel) (by decide +kernel)
set_option maxRecDepth 20000 in
theorem gX6_takenFor_X6_placeOf : GoodIn wsX6_takenFor (wsV RX6 123 RX6 yX6_placeOf wsX6_placeOf) := goodIn_app (goodIn_of _ (by decide +kernel)) ggX6_takenFor_X6_placeOf
theorem dX6_takenFor_0 : decode cX6_takenFor 0 = .ok (.aload_n 0, 1) := by decide +kernel
theorem dX6_takenFor_1 : decode cX6_takenFor 1 = .ok (.getfield 44, 3) := by decide +kernel
theorem dX6_takenFor_4 : decode cX6_takenFor 4 = .ok (.iload_n 1, 1) := by decide +kernel
theorem dX6_takenFor_5 : decode cX6_takenFor 5 = .ok (.iaload, 1) := by decide +kernel
theorem dX6_takenFor_6 : decode cX6_takenFor 6 = .ok (.istore_n 2, 1) := by decide +kernel
theorem dX6_takenFor_7 : decode cX6_takenFor 7 = .ok (.aload_n 0, 1) := by decide +kernel
theorem dX6_takenFor_8 : decode cX6_takenFor 8 = .ok (.getfield 19, 3) := by decide +kernel
theorem dX6_takenFor_11 : decode cX6_takenFor 11 = .ok (.iload_n 2, 1) := by decide +kernel
theorem dX6_takenFor_12 : decode cX6_takenFor 12 = .ok (.iaload, 1) := by decide +kernel
theorem dX6_takenFor_13 : decode cX6_takenFor 13 = .ok (.ifCond .ne 10, 3) := by decide +kernel
theorem dX6_takenFor_16 : decode cX6_takenFor 16 = .ok (.aload_n 0, 1) := by decide +kernel
theorem dX6_takenFor_17 : decode cX6_takenFor 17 = .ok (.getfield 28, 3) := by decide +kernel
theorem dX6_takenFor_20 : decode cX6_takenFor 20 = .ok (.iload_n 2, 1) := by decide +kernel
theorem dX6_takenFor_21 : decode cX6_takenFor 21 = .ok (.iaload, 1) := by decide +kernel
theorem dX6_takenFor_22 : decode cX6_takenFor 22 = .ok (.ireturn, 1) := by decide +kernel
theorem dX6_takenFor_23 : decode cX6_takenFor 23 = .ok (.aload_n 0, 1) := by decide +kernel
theorem dX6_takenFor_24 : decode cX6_takenFor 24 = .ok (.getfield 19, 3) := by decide +kernel
theorem dX6_takenFor_27 : decode cX6_takenFor 27 = .ok (.iload_n 2, 1) := by decide +kernel
theorem dX6_takenFor_28 : decode cX6_takenFor 28 = .ok (.iaload, 1) := by decide +kernel
theorem dX6_takenFor_29 : decode cX6_takenFor 29 = .ok (.iconst 2, 1) := by decide +kernel
theorem dX6_takenFor_30 : decode cX6_takenFor 30 = .ok (.if_icmp .ne 31, 3) := by decide +kernel
theorem dX6_takenFor_33 : decode cX6_takenFor 33 = .ok (.aload_n 0, 1) := by decide +kernel
theorem dX6_takenFor_34 : decode cX6_takenFor 34 = .ok (.aload_n 0, 1) := by decide +kernel
theorem dX6_takenFor_35 : decode cX6_takenFor 35 = .ok (.getfield 22, 3) := by decide +kernel
theorem dX6_takenFor_38 : decode cX6_takenFor 38 = .ok (.iload_n 2, 1) := by decide +kernel
theorem dX6_takenFor_39 : decode cX6_takenFor 39 = .ok (.iaload, 1) := by decide +kernel
theorem dX6_takenFor_40 : decode cX6_takenFor 40 = .ok (.invokevirtual 123, 3) := by decide +kernel
theorem dX6_takenFor_43 : decode cX6_takenFor 43 = .ok (.iconst (-1), 1) := by decide +kernel
theorem dX6_takenFor_44 : decode cX6_takenFor 44 = .ok (.if_icmp .ne 17, 3) := by decide +kernel
theorem dX6_takenFor_47 : decode cX6_takenFor 47 = .ok (.aload_n 0, 1) := by decide +kernel
theorem dX6_takenFor_48 : decode cX6_takenFor 48 = .ok (.getfield 28, 3) := by decide +kernel
theorem dX6_takenFor_51 : decode cX6_takenFor 51 = .ok (.aload_n 0, 1) := by decide +kernel
theorem dX6_takenFor_52 : decode cX6_takenFor 52 = .ok (.getfield 22, 3) := by decide +kernel
theorem dX6_takenFor_55 : decode cX6_takenFor 55 = .ok (.iload_n 2, 1) := by decide +kernel
theorem dX6_takenFor_56 : decode cX6_takenFor 56 = .ok (.iaload, 1) := by decide +kernel
theorem dX6_takenFor_57 : decode cX6_takenFor 57 = .ok (.iaload, 1) := by decide +kernel
theorem dX6_takenFor_58 : decode cX6_takenFor 58 = .ok (.goto 4, 3) := by decide +kernel
theorem dX6_takenFor_61 : decode cX6_takenFor 61 = .ok (.iconst (-1), 1) := by decide +kernel
theorem dX6_takenFor_62 : decode cX6_takenFor 62 = .ok (.ireturn, 1) := by decide +kernel
theorem dX6_ones_0 : decode cX6_ones 0 = .ok (.iconst 0, 1) := by decide +kernel
theorem dX6_ones_1 : decode cX6_ones 1 = .ok (.istore_n 1, 1) := by decide +kernel
theorem dX6_ones_2 : decode cX6_ones 2 = .ok (.iload_n 0, 1) := by decide +kernel
theorem dX6_ones_3 : decode cX6_ones 3 = .ok (.istore_n 2, 1) := by decide +kernel
theorem dX6_ones_4 : decode cX6_ones 4 = .ok (.iload_n 2, 1) := by decide +kernel
theorem dX6_ones_5 : decode cX6_ones 5 = .ok (.ifCond .eq 15, 3) := by decide +kernel
theorem dX6_ones_8 : decode cX6_ones 8 = .ok (.iinc 1 1, 3) := by decide +kernel
theorem dX6_ones_11 : decode cX6_ones 11 = .ok (.iload_n 2, 1) := by decide +kernel
theorem dX6_ones_12 : decode cX6_ones 12 = .ok (.iload_n 2, 1) := by decide +kernel
theorem dX6_ones_13 : decode cX6_ones 13 = .ok (.iconst 1, 1) := by decide +kernel
theorem dX6_ones_14 : decode cX6_ones 14 = .ok (.isub, 1) := by decide +kernel
theorem dX6_ones_15 : decode cX6_ones 15 = .ok (.iand, 1) := by decide +kernel
theorem dX6_ones_16 : decode cX6_ones 16 = .ok (.istore_n 2, 1) := by decide +kernel
theorem dX6_ones_17 : decode cX6_ones 17 = .ok (.goto (-13), 3) := by decide +kernel
theorem dX6_ones_20 : decode cX6_ones 20 = .ok (.iload_n 1, 1) := by decide +kernel
theorem dX6_ones_21 : decode cX6_ones 21 = .ok (.ireturn, 1) := by decide +kernel
set_option maxRecDepth 20000 in
theorem ggX6_choose_X6_takenFor : GoodIn wsX6_choose wsX6_takenFor := goodIn_r _ [12, 13, 14, 15, 16, 17, 18, 19, 11, 20, 2, 24, 25, 26, 27, 28, 29, 30, 31, 32, 33, 34, 35, 36, 37, 38, 39, 40, 41, 42, 43, 44, 45, 46, 47, 48, 49, 50, 51, 52, 53, 54, 55, 56] (by decide +kernel) (by decide +kernel)
set_option maxRecDepth 20000 in
theorem gX6_choose_X6_takenFor : GoodIn wsX6_choose (wsV RX6 145 RX6 yX6_takenFor wsX6_takenFor) := goodIn_app (goodIn_of _ (by decide +kernel)) ggX6_choose_X6_takenFor
set_option maxRecDepth 20000 in
theorem ggX6_choose_X6_ones : GoodIn wsX6_choose wsX6_ones := goodIn_r _ [23] (by decide +kernel) (by decide +kernel)
set_option maxRecDepth 20000 in
theorem gX6_choose_X6_ones : GoodIn wsX6_choose (va_wsS RX6 148 yX6_ones wsX6_ones) := goodIn_app (goodIn_of _ (by decide +kernel)) ggX6_choose_X6_ones
theorem dX6_choose_0 : decode cX6_choose 0 = .ok (.aload_n 0, 1) := by decide +kernel
theorem dX6_choose_1 : decode cX6_choose 1 = .ok (.iconst 0, 1) := by decide +kernel
theorem dX6_choose_2 : decode cX6_choose 2 = .ok (.putfield 142, 3) := by decide +kernel
theorem dX6_choose_5 : decode cX6_choose 5 = .ok (.iconst 0, 1) := by decide +kernel
theorem dX6_choose_6 : decode cX6_choose 6 = .ok (.istore_n 1, 1) := by decide +kernel
theorem dX6_choose_7 : decode cX6_choose 7 = .ok (.iload_n 1, 1) := by decide +kernel
theorem dX6_choose_8 : decode cX6_choose 8 = .ok (.aload_n 0, 1) := by decide +kernel
theorem dX6_choose_9 : decode cX6_choose 9 = .ok (.getfield 79, 3) := by decide +kernel
theorem dX6_choose_12 : decode cX6_choose 12 = .ok (.if_icmp .ge 38, 3) := by decide +kernel
theorem dX6_choose_15 : decode cX6_choose 15 = .ok (.aload_n 0, 1) := by decide +kernel
theorem dX6_choose_16 : decode cX6_choose 16 = .ok (.iload_n 1, 1) := by decide +kernel
theorem dX6_choose_17 : decode cX6_choose 17 = .ok (.invokevirtual 145, 3) := by decide +kernel
theorem dX6_choose_20 : decode cX6_choose 20 = .ok (.iconst (-1), 1) := by decide +kernel
theorem dX6_choose_21 : decode cX6_choose 21 = .ok (.if_icmp .eq 23, 3) := by decide +kernel
theorem dX6_choose_24 : decode cX6_choose 24 = .ok (.aload_n 0, 1) := by decide +kernel
theorem dX6_choose_25 : decode cX6_choose 25 = .ok (.getfield 62, 3) := by decide +kernel
theorem dX6_choose_28 : decode cX6_choose 28 = .ok (.aload_n 0, 1) := by decide +kernel
theorem dX6_choose_29 : decode cX6_choose 29 = .ok (.getfield 142, 3) := by decide +kernel
theorem dX6_choose_32 : decode cX6_choose 32 = .ok (.iload_n 1, 1) := by decide +kernel
theorem dX6_choose_33 : decode cX6_choose 33 = .ok (.iastore, 1) := by decide +kernel
theorem dX6_choose_34 : decode cX6_choose 34 = .ok (.aload_n 0, 1) := by decide +kernel
theorem dX6_choose_35 : decode cX6_choose 35 = .ok (.dup, 1) := by decide +kernel
theorem dX6_choose_36 : decode cX6_choose 36 = .ok (.getfield 142, 3) := by decide +kernel
theorem dX6_choose_39 : decode cX6_choose 39 = .ok (.iconst 1, 1) := by decide +kernel
theorem dX6_choose_40 : decode cX6_choose 40 = .ok (.iadd, 1) := by decide +kernel
theorem dX6_choose_41 : decode cX6_choose 41 = .ok (.putfield 142, 3) := by decide +kernel
theorem dX6_choose_44 : decode cX6_choose 44 = .ok (.iinc 1 1, 3) := by decide +kernel
theorem dX6_choose_47 : decode cX6_choose 47 = .ok (.goto (-40), 3) := by decide +kernel
theorem dX6_choose_50 : decode cX6_choose 50 = .ok (.iconst 0, 1) := by decide +kernel
theorem dX6_choose_51 : decode cX6_choose 51 = .ok (.istore_n 1, 1) := by decide +kernel
theorem dX6_choose_52 : decode cX6_choose 52 = .ok (.iload_n 1, 1) := by decide +kernel
theorem dX6_choose_53 : decode cX6_choose 53 = .ok (.aload_n 0, 1) := by decide +kernel
theorem dX6_choose_54 : decode cX6_choose 54 = .ok (.getfield 142, 3) := by decide +kernel
theorem dX6_choose_57 : decode cX6_choose 57 = .ok (.if_icmp .ge 95, 3) := by decide +kernel
theorem dX6_choose_60 : decode cX6_choose 60 = .ok (.aload_n 0, 1) := by decide +kernel
theorem dX6_choose_61 : decode cX6_choose 61 = .ok (.getfield 65, 3) := by decide +kernel
theorem dX6_choose_64 : decode cX6_choose 64 = .ok (.iload_n 1, 1) := by decide +kernel
theorem dX6_choose_65 : decode cX6_choose 65 = .ok (.iconst 0, 1) := by decide +kernel
theorem dX6_choose_66 : decode cX6_choose 66 = .ok (.iastore, 1) := by decide +kernel
theorem dX6_choose_67 : decode cX6_choose 67 = .ok (.iload_n 1, 1) := by decide +kernel
theorem dX6_choose_68 : decode cX6_choose 68 = .ok (.iconst 1, 1) := by decide +kernel
theorem dX6_choose_69 : decode cX6_choose 69 = .ok (.iadd, 1) := by decide +kernel
theorem dX6_choose_70 : decode cX6_choose 70 = .ok (.istore_n 2, 1) := by decide +kernel
theorem dX6_choose_71 : decode cX6_choose 71 = .ok (.iload_n 2, 1) := by decide +kernel
theorem dX6_choose_72 : decode cX6_choose 72 = .ok (.aload_n 0, 1) := by decide +kernel
theorem dX6_choose_73 : decode cX6_choose 73 = .ok (.getfield 142, 3) := by decide +kernel
theorem dX6_choose_76 : decode cX6_choose 76 = .ok (.if_icmp .ge 70, 3) := by decide +kernel
theorem dX6_choose_79 : decode cX6_choose 79 = .ok (.aload_n 0, 1) := by decide +kernel
theorem dX6_choose_80 : decode cX6_choose 80 = .ok (.aload_n 0, 1) := by decide +kernel
theorem dX6_choose_81 : decode cX6_choose 81 = .ok (.getfield 62, 3) := by decide +kernel
theorem dX6_choose_84 : decode cX6_choose 84 = .ok (.iload_n 1, 1) := by decide +kernel
theorem dX6_choose_85 : decode cX6_choose 85 = .ok (.iaload, 1) := by decide +kernel
theorem dX6_choose_86 : decode cX6_choose 86 = .ok (.invokevirtual 145, 3) := by decide +kernel
theorem dX6_choose_89 : decode cX6_choose 89 = .ok (.istore_n 3, 1) := by decide +kernel
theorem dX6_choose_90 : decode cX6_choose 90 = .ok (.aload_n 0, 1) := by decide +kernel
theorem dX6_choose_91 : decode cX6_choose 91 = .ok (.aload_n 0, 1) := by decide +kernel
theorem dX6_choose_92 : decode cX6_choose 92 = .ok (.getfield 62, 3) := by decide +kernel
theorem dX6_choose_95 : decode cX6_choose 95 = .ok (.iload_n 2, 1) := by decide +kernel
theorem dX6_choose_96 : decode cX6_choose 96 = .ok (.iaload, 1) := by decide +kernel
theorem dX6_choose_97 : decode cX6_choose 97 = .ok (.invokevirtual 145, 3) := by decide +kernel
theorem dX6_choose_100 : decode cX6_choose 100 = .ok (.istore 4, 2) := by decide +kernel
theorem dX6_choose_102 : decode cX6_choose 102 = .ok (.aload_n 0, 1) := by decide +kernel
theorem dX6_choose_103 : decode cX6_choose 103 = .ok (.getfield 65, 3) := by decide +kernel
theorem dX6_choose_106 : decode cX6_choose 106 = .ok (.iload_n 1, 1) := by decide +kernel
theorem dX6_choose_107 : decode cX6_choose 107 = .ok (.dup2, 1) := by decide +kernel
theorem dX6_choose_108 : decode cX6_choose 108 = .ok (.iaload, 1) := by decide +kernel
theorem dX6_choose_109 : decode cX6_choose 109 = .ok (.aload_n 0, 1) := by decide +kernel
theorem dX6_choose_110 : decode cX6_choose 110 = .ok (.getfield 31, 3) := by decide +kernel
theorem dX6_choose_113 : decode cX6_choose 113 = .ok (.iload 4, 2) := by decide +kernel
theorem dX6_choose_115 : decode cX6_choose 115 = .ok (.iaload, 1) := by decide +kernel
theorem dX6_choose_116 : decode cX6_choose 116 = .ok (.iload_n 3, 1) := by decide +kernel
theorem dX6_choose_117 : decode cX6_choose 117 = .ok (.ishr, 1) := by decide +kernel
theorem dX6_choose_118 : decode cX6_choose 118 = .ok (.iconst 1, 1) := by decide +kernel
theorem dX6_choose_119 : decode cX6_choose 119 = .ok (.iand, 1) := by decide +kernel
theorem dX6_choose_120 : decode cX6_choose 120 = .ok (.iconst 1, 1) := by decide +kernel
theorem dX6_choose_121 : decode cX6_choose 121 = .ok (.if_icmp .ne 16, 3) := by decide +kernel
theorem dX6_choose_124 : decode cX6_choose 124 = .ok (.iconst 1, 1) := by decide +kernel
theorem dX6_choose_125 : decode cX6_choose 125 = .ok (.aload_n 0, 1) := by decide +kernel
theorem dX6_choose_126 : decode cX6_choose 126 = .ok (.getfield 142, 3) := by decide +kernel
theorem dX6_choose_129 : decode cX6_choose 129 = .ok (.iconst 1, 1) := by decide +kernel
theorem dX6_choose_130 : decode cX6_choose 130 = .ok (.isub, 1) := by decide +kernel
theorem dX6_choose_131 : decode cX6_choose 131 = .ok (.iload_n 2, 1) := by decide +kernel
theorem dX6_choose_132 : decode cX6_choose 132 = .ok (.isub, 1) := by decide +kernel
theorem dX6_choose_133 : decode cX6_choose 133 = .ok (.ishl, 1) := by decide +kernel
theorem dX6_choose_134 : decode cX6_choose 134 = .ok (.goto 4, 3) := by decide +kernel
theorem dX6_choose_137 : decode cX6_choose 137 = .ok (.iconst 0, 1) := by decide +kernel
theorem dX6_choose_138 : decode cX6_choose 138 = .ok (.ior, 1) := by decide +kernel
theorem dX6_choose_139 : decode cX6_choose 139 = .ok (.iastore, 1) := by decide +kernel
theorem dX6_choose_140 : decode cX6_choose 140 = .ok (.iinc 2 1, 3) := by decide +kernel
theorem dX6_choose_143 : decode cX6_choose 143 = .ok (.goto (-72), 3) := by decide +kernel
theorem dX6_choose_146 : decode cX6_choose 146 = .ok (.iinc 1 1, 3) := by decide +kernel
theorem dX6_choose_149 : decode cX6_choose 149 = .ok (.goto (-97), 3) := by decide +kernel
theorem dX6_choose_152 : decode cX6_choose 152 = .ok (.iconst 0, 1) := by decide +kernel
theorem dX6_choose_153 : decode cX6_choose 153 = .ok (.istore_n 1, 1) := by decide +kernel
theorem dX6_choose_154 : decode cX6_choose 154 = .ok (.iconst 0, 1) := by decide +kernel
theorem dX6_choose_155 : decode cX6_choose 155 = .ok (.istore_n 2, 1) := by decide +kernel
theorem dX6_choose_156 : decode cX6_choose 156 = .ok (.iconst 1, 1) := by decide +kernel
theorem dX6_choose_157 : decode cX6_choose 157 = .ok (.aload_n 0, 1) := by decide +kernel
theorem dX6_choose_158 : decode cX6_choose 158 = .ok (.getfield 142, 3) := by decide +kernel
theorem dX6_choose_161 : decode cX6_choose 161 = .ok (.ishl, 1) := by decide +kernel
theorem dX6_choose_162 : decode cX6_choose 162 = .ok (.iconst 1, 1) := by decide +kernel
theorem dX6_choose_163 : decode cX6_choose 163 = .ok (.isub, 1) := by decide +kernel
theorem dX6_choose_164 : decode cX6_choose 164 = .ok (.istore_n 3, 1) := by decide +kernel
theorem dX6_choose_165 : decode cX6_choose 165 = .ok (.iload_n 3, 1) := by decide +kernel
theorem dX6_choose_166 : decode cX6_choose 166 = .ok (.ifCond .le 92, 3) := by decide +kernel
theorem dX6_choose_169 : decode cX6_choose 169 = .ok (.iload_n 3, 1) := by decide +kernel
theorem dX6_choose_170 : decode cX6_choose 170 = .ok (.invokestatic 148, 3) := by decide +kernel
theorem dX6_choose_173 : decode cX6_choose 173 = .ok (.istore 4, 2) := by decide +kernel
theorem dX6_choose_175 : decode cX6_choose 175 = .ok (.iload 4, 2) := by decide +kernel
theorem dX6_choose_177 : decode cX6_choose 177 = .ok (.iload_n 2, 1) := by decide +kernel
theorem dX6_choose_178 : decode cX6_choose 178 = .ok (.if_icmp .le 74, 3) := by decide +kernel
theorem dX6_choose_181 : decode cX6_choose 181 = .ok (.iconst 1, 1) := by decide +kernel
theorem dX6_choose_182 : decode cX6_choose 182 = .ok (.istore 5, 2) := by decide +kernel
theorem dX6_choose_184 : decode cX6_choose 184 = .ok (.iconst 0, 1) := by decide +kernel
theorem dX6_choose_185 : decode cX6_choose 185 = .ok (.istore 6, 2) := by decide +kernel
theorem dX6_choose_187 : decode cX6_choose 187 = .ok (.iload 6, 2) := by decide +kernel
theorem dX6_choose_189 : decode cX6_choose 189 = .ok (.aload_n 0, 1) := by decide +kernel
theorem dX6_choose_190 : decode cX6_choose 190 = .ok (.getfield 142, 3) := by decide +kernel
theorem dX6_choose_193 : decode cX6_choose 193 = .ok (.if_icmp .ge 49, 3) := by decide +kernel
theorem dX6_choose_196 : decode cX6_choose 196 = .ok (.iload 5, 2) := by decide +kernel
theorem dX6_choose_198 : decode cX6_choose 198 = .ok (.ifCond .eq 44, 3) := by decide +kernel
theorem dX6_choose_201 : decode cX6_choose 201 = .ok (.iload_n 3, 1) := by decide +kernel
theorem dX6_choose_202 : decode cX6_choose 202 = .ok (.aload_n 0, 1) := by decide +kernel
theorem dX6_choose_203 : decode cX6_choose 203 = .ok (.getfield 142, 3) := by decide +kernel
theorem dX6_choose_206 : decode cX6_choose 206 = .ok (.iconst 1, 1) := by decide +kernel
theorem dX6_choose_207 : decode cX6_choose 207 = .ok (.isub, 1) := by decide +kernel
theorem dX6_choose_208 : decode cX6_choose 208 = .ok (.iload 6, 2) := by decide +kernel
theorem dX6_choose_210 : decode cX6_choose 210 = .ok (.isub, 1) := by decide +kernel
theorem dX6_choose_211 : decode cX6_choose 211 = .ok (.ishr, 1) := by decide +kernel
theorem dX6_choose_212 : decode cX6_choose 212 = .ok (.iconst 1, 1) := by decide +kernel
theorem dX6_choose_213 : decode cX6_choose 213 = .ok (.iand, 1) := by decide +kernel
theorem dX6_choose_214 : decode cX6_choose 214 = .ok (.ifCond .eq 15, 3) := by decide +kernel
theorem dX6_choose_217 : decode cX6_choose 217 = .ok (.aload_n 0, 1) := by decide +kernel
theorem dX6_choose_218 : decode cX6_choose 218 = .ok (.getfield 65, 3) := by decide +kernel
theorem dX6_choose_221 : decode cX6_choose 221 = .ok (.iload 6, 2) := by decide +kernel
theorem dX6_choose_223 : decode cX6_choose 223 = .ok (.iaload, 1) := by decide +kernel
theorem dX6_choose_224 : decode cX6_choose 224 = .ok (.iload_n 3, 1) := by decide +kernel
theorem dX6_choose_225 : decode cX6_choose 225 = .ok (.iand, 1) := by decide +kernel
theorem dX6_choose_226 : decode cX6_choose 226 = .ok (.ifCond .ne 7, 3) := by decide +kernel
theorem dX6_choose_229 : decode cX6_choose 229 = .ok (.iconst 1, 1) := by decide +kernel
theorem dX6_choose_230 : decode cX6_choose 230 = .ok (.goto 4, 3) := by decide +kernel
theorem dX6_choose_233 : decode cX6_choose 233 = .ok (.iconst 0, 1) := by decide +kernel
theorem dX6_choose_234 : decode cX6_choose 234 = .ok (.istore 5, 2) := by decide +kernel
theorem dX6_choose_236 : decode cX6_choose 236 = .ok (.iinc 6 1, 3) := by decide +kernel
theorem dX6_choose_239 : decode cX6_choose 239 = .ok (.goto (-52), 3) := by decide +kernel
theorem dX6_choose_242 : decode cX6_choose 242 = .ok (.iload 5, 2) := by decide +kernel
