theorem dX0_init_0 : decode cX0_init 0 = .ok (.aload_n 0, 1) := by decide +kernel
theorem dX0_init_1 : decode cX0_init 1 = .ok (.invokespecial 3, 3) := by decide +kernel
theorem dX0_init_4 : decode cX0_init 4 = .ok (.aload_n 0, 1) := by decide +kernel
theorem dX0_init_5 : decode cX0_init 5 = .ok (.bipush 16, 2) := by decide +kernel
theorem dX0_init_7 : decode cX0_init 7 = .ok (.newarray .int, 2) := by decide +kernel
theorem dX0_init_9 : decode cX0_init 9 = .ok (.putfield 9, 3) := by decide +kernel
theorem dX0_init_12 : decode cX0_init 12 = .ok (.return_, 1) := by decide +kernel
theorem dX0_hasPlace_0 : decode cX0_hasPlace 0 = .ok (.iload_n 1, 1) := by decide +kernel
theorem dX0_hasPlace_1 : decode cX0_hasPlace 1 = .ok (.ifCond .lt 15, 3) := by decide +kernel
theorem dX0_hasPlace_4 : decode cX0_hasPlace 4 = .ok (.iload_n 1, 1) := by decide +kernel
theorem dX0_hasPlace_5 : decode cX0_hasPlace 5 = .ok (.aload_n 0, 1) := by decide +kernel
theorem dX0_hasPlace_6 : decode cX0_hasPlace 6 = .ok (.getfield 15, 3) := by decide +kernel
theorem dX0_hasPlace_9 : decode cX0_hasPlace 9 = .ok (.if_icmp .ge 7, 3) := by decide +kernel
theorem dX0_hasPlace_12 : decode cX0_hasPlace 12 = .ok (.iconst 1, 1) := by decide +kernel
theorem dX0_hasPlace_13 : decode cX0_hasPlace 13 = .ok (.goto 4, 3) := by decide +kernel
theorem dX0_hasPlace_16 : decode cX0_hasPlace 16 = .ok (.iconst 0, 1) := by decide +kernel
theorem dX0_hasPlace_17 : decode cX0_hasPlace 17 = .ok (.ireturn, 1) := by decide +kernel
set_option maxRecDepth 20000 in
theorem ggX0_lineAt_X0_hasPlace : GoodIn wsX0_lineAt wsX0_hasPlace := goodIn_r _ [6, 7, 8, 9] (by decide +kernel) (by decide +kernel)
set_option maxRecDepth 20000 in
theorem gX0_lineAt_X0_hasPlace : GoodIn wsX0_lineAt (wsV RX0 19 RX0 yX0_hasPlace wsX0_hasPlace) := goodIn_app (goodIn_of _ (by decide +kernel)) ggX0_lineAt_X0_hasPlace
theorem dX0_lineAt_0 : decode cX0_lineAt 0 = .ok (.aload_n 0, 1) := by decide +kernel
theorem dX0_lineAt_1 : decode cX0_lineAt 1 = .ok (.iload_n 1, 1) := by decide +kernel
theorem dX0_lineAt_2 : decode cX0_lineAt 2 = .ok (.invokevirtual 19, 3) := by decide +kernel
theorem dX0_lineAt_5 : decode cX0_lineAt 5 = .ok (.ifCond .eq 12, 3) := by decide +kernel
theorem dX0_lineAt_8 : decode cX0_lineAt 8 = .ok (.aload_n 0, 1) := by decide +kernel
theorem dX0_lineAt_9 : decode cX0_lineAt 9 = .ok (.getfield 9, 3) := by decide +kernel
theorem dX0_lineAt_12 : decode cX0_lineAt 12 = .ok (.iload_n 1, 1) := by decide +kernel
theorem dX0_lineAt_13 : decode cX0_lineAt 13 = .ok (.iaload, 1) := by decide +kernel
theorem dX0_lineAt_14 : decode cX0_lineAt 14 = .ok (.goto 4, 3) := by decide +kernel
theorem dX0_lineAt_17 : decode cX0_lineAt 17 = .ok (.iconst (-1), 1) := by decide +kernel
theorem dX0_lineAt_18 : decode cX0_lineAt 18 = .ok (.ireturn, 1) := by decide +kernel
theorem dX0_placeOf_0 : decode cX0_placeOf 0 = .ok (.iconst 0, 1) := by decide +kernel
theorem dX0_placeOf_1 : decode cX0_placeOf 1 = .ok (.istore_n 2, 1) := by decide +kernel
theorem dX0_placeOf_2 : decode cX0_placeOf 2 = .ok (.iload_n 2, 1) := by decide +kernel
theorem dX0_placeOf_3 : decode cX0_placeOf 3 = .ok (.aload_n 0, 1) := by decide +kernel
theorem dX0_placeOf_4 : decode cX0_placeOf 4 = .ok (.getfield 15, 3) := by decide +kernel
theorem dX0_placeOf_7 : decode cX0_placeOf 7 = .ok (.if_icmp .ge 21, 3) := by decide +kernel
theorem dX0_placeOf_10 : decode cX0_placeOf 10 = .ok (.aload_n 0, 1) := by decide +kernel
theorem dX0_placeOf_11 : decode cX0_placeOf 11 = .ok (.getfield 9, 3) := by decide +kernel
theorem dX0_placeOf_14 : decode cX0_placeOf 14 = .ok (.iload_n 2, 1) := by decide +kernel
theorem dX0_placeOf_15 : decode cX0_placeOf 15 = .ok (.iaload, 1) := by decide +kernel
theorem dX0_placeOf_16 : decode cX0_placeOf 16 = .ok (.iload_n 1, 1) := by decide +kernel
theorem dX0_placeOf_17 : decode cX0_placeOf 17 = .ok (.if_icmp .ne 5, 3) := by decide +kernel
theorem dX0_placeOf_20 : decode cX0_placeOf 20 = .ok (.iload_n 2, 1) := by decide +kernel
theorem dX0_placeOf_21 : decode cX0_placeOf 21 = .ok (.ireturn, 1) := by decide +kernel
theorem dX0_placeOf_22 : decode cX0_placeOf 22 = .ok (.iinc 2 1, 3) := by decide +kernel
theorem dX0_placeOf_25 : decode cX0_placeOf 25 = .ok (.goto (-23), 3) := by decide +kernel
theorem dX0_placeOf_28 : decode cX0_placeOf 28 = .ok (.iconst (-1), 1) := by decide +kernel
theorem dX0_placeOf_29 : decode cX0_placeOf 29 = .ok (.ireturn, 1) := by decide +kernel
set_option maxRecDepth 20000 in
theorem ggX0_holds_X0_placeOf : GoodIn wsX0_holds wsX0_placeOf := goodIn_r _ [5, 6, 7, 8, 9] (by decide +kernel) (by decide +kernel)
set_option maxRecDepth 20000 in
theorem gX0_holds_X0_placeOf : GoodIn wsX0_holds (wsV RX0 23 RX0 yX0_placeOf wsX0_placeOf) := goodIn_app (goodIn_of _ (by decide +kernel)) ggX0_holds_X0_placeOf
theorem dX0_holds_0 : decode cX0_holds 0 = .ok (.aload_n 0, 1) := by decide +kernel
theorem dX0_holds_1 : decode cX0_holds 1 = .ok (.iload_n 1, 1) := by decide +kernel
theorem dX0_holds_2 : decode cX0_holds 2 = .ok (.invokevirtual 23, 3) := by decide +kernel
theorem dX0_holds_5 : decode cX0_holds 5 = .ok (.iconst (-1), 1) := by decide +kernel
theorem dX0_holds_6 : decode cX0_holds 6 = .ok (.if_icmp .eq 7, 3) := by decide +kernel
theorem dX0_holds_9 : decode cX0_holds 9 = .ok (.iconst 1, 1) := by decide +kernel
theorem dX0_holds_10 : decode cX0_holds 10 = .ok (.goto 4, 3) := by decide +kernel
theorem dX0_holds_13 : decode cX0_holds 13 = .ok (.iconst 0, 1) := by decide +kernel
theorem dX0_holds_14 : decode cX0_holds 14 = .ok (.ireturn, 1) := by decide +kernel
theorem dX0_insert_0 : decode cX0_insert 0 = .ok (.aload_n 0, 1) := by decide +kernel
theorem dX0_insert_1 : decode cX0_insert 1 = .ok (.getfield 15, 3) := by decide +kernel
theorem dX0_insert_4 : decode cX0_insert 4 = .ok (.bipush 16, 2) := by decide +kernel
theorem dX0_insert_6 : decode cX0_insert 6 = .ok (.if_icmp .ge 15, 3) := by decide +kernel
theorem dX0_insert_9 : decode cX0_insert 9 = .ok (.iload_n 2, 1) := by decide +kernel
theorem dX0_insert_10 : decode cX0_insert 10 = .ok (.ifCond .lt 11, 3) := by decide +kernel
theorem dX0_insert_13 : decode cX0_insert 13 = .ok (.iload_n 2, 1) := by decide +kernel
theorem dX0_insert_14 : decode cX0_insert 14 = .ok (.aload_n 0, 1) := by decide +kernel
theorem dX0_insert_15 : decode cX0_insert 15 = .ok (.getfield 15, 3) := by decide +kernel
theorem dX0_insert_18 : decode cX0_insert 18 = .ok (.if_icmp .le 4, 3) := by decide +kernel
theorem dX0_insert_21 : decode cX0_insert 21 = .ok (.return_, 1) := by decide +kernel
theorem dX0_insert_22 : decode cX0_insert 22 = .ok (.aload_n 0, 1) := by decide +kernel
theorem dX0_insert_23 : decode cX0_insert 23 = .ok (.getfield 15, 3) := by decide +kernel
theorem dX0_insert_26 : decode cX0_insert 26 = .ok (.istore_n 3, 1) := by decide +kernel
theorem dX0_insert_27 : decode cX0_insert 27 = .ok (.iload_n 3, 1) := by decide +kernel
theorem dX0_insert_28 : decode cX0_insert 28 = .ok (.iload_n 2, 1) := by decide +kernel
theorem dX0_insert_29 : decode cX0_insert 29 = .ok (.if_icmp .le 23, 3) := by decide +kernel
theorem dX0_insert_32 : decode cX0_insert 32 = .ok (.aload_n 0, 1) := by decide +kernel
theorem dX0_insert_33 : decode cX0_insert 33 = .ok (.getfield 9, 3) := by decide +kernel
theorem dX0_insert_36 : decode cX0_insert 36 = .ok (.iload_n 3, 1) := by decide +kernel
theorem dX0_insert_37 : decode cX0_insert 37 = .ok (.aload_n 0, 1) := by decide +kernel
theorem dX0_insert_38 : decode cX0_insert 38 = .ok (.getfield 9, 3) := by decide +kernel
theorem dX0_insert_41 : decode cX0_insert 41 = .ok (.iload_n 3, 1) := by decide +kernel
theorem dX0_insert_42 : decode cX0_insert 42 = .ok (.iconst 1, 1) := by decide +kernel
theorem dX0_insert_43 : decode cX0_insert 43 = .ok (.isub, 1) := by decide +kernel
theorem dX0_insert_44 : decode cX0_insert 44 = .ok (.iaload, 1) := by decide +kernel
theorem dX0_insert_45 : decode cX0_insert 45 = .ok (.iastore, 1) := by decide +kernel
theorem dX0_insert_46 : decode cX0_insert 46 = .ok (.iinc 3 (-1), 3) := by decide +kernel
theorem dX0_insert_49 : decode cX0_insert 49 = .ok (.goto (-22), 3) := by decide +kernel
theorem dX0_insert_52 : decode cX0_insert 52 = .ok (.aload_n 0, 1) := by decide +kernel
theorem dX0_insert_53 : decode cX0_insert 53 = .ok (.getfield 9, 3) := by decide +kernel
theorem dX0_insert_56 : decode cX0_insert 56 = .ok (.iload_n 2, 1) := by decide +kernel
theorem dX0_insert_57 : decode cX0_insert 57 = .ok (.iload_n 1, 1) := by decide +kernel
theorem dX0_insert_58 : decode cX0_insert 58 = .ok (.iastore, 1) := by decide +kernel
theorem dX0_insert_59 : decode cX0_insert 59 = .ok (.aload_n 0, 1) := by decide +kernel
theorem dX0_insert_60 : decode cX0_insert 60 = .ok (.dup, 1) := by decide +kernel
theorem dX0_insert_61 : decode cX0_insert 61 = .ok (.getfield 15, 3) := by decide +kernel
theorem dX0_insert_64 : decode cX0_insert 64 = .ok (.iconst 1, 1) := by decide +kernel
theorem dX0_insert_65 : decode cX0_insert 65 = .ok (.iadd, 1) := by decide +kernel
theorem dX0_insert_66 : decode cX0_insert 66 = .ok (.putfield 15, 3) := by decide +kernel
theorem dX0_insert_69 : decode cX0_insert 69 = .ok (.return_, 1) := by decide +kernel
set_option maxRecDepth 20000 in
theorem ggX0_remove_X0_hasPlace : GoodIn wsX0_remove wsX0_hasPlace := goodIn_r _ [7, 2, 8, 9] (by decide +kernel) (by decide +kernel)
set_option maxRecDepth 20000 in
theorem gX0_remove_X0_hasPlace : GoodIn wsX0_remove (wsV RX0 19 RX0 yX0_hasPlace wsX0_hasPlace) := goodIn_app (goodIn_of _ (by decide +kernel)) ggX0_remove_X0_hasPlace
theorem dX0_remove_0 : decode cX0_remove 0 = .ok (.aload_n 0, 1) := by decide +kernel
theorem dX0_remove_1 : decode cX0_remove 1 = .ok (.iload_n 1, 1) := by decide +kernel
theorem dX0_remove_2 : decode cX0_remove 2 = .ok (.invokevirtual 19, 3) := by decide +kernel
theorem dX0_remove_5 : decode cX0_remove 5 = .ok (.ifCond .ne 5, 3) := by decide +kernel
theorem dX0_remove_8 : decode cX0_remove 8 = .ok (.iconst (-1), 1) := by decide +kernel
theorem dX0_remove_9 : decode cX0_remove 9 = .ok (.ireturn, 1) := by decide +kernel
theorem dX0_remove_10 : decode cX0_remove 10 = .ok (.aload_n 0, 1) := by decide +kernel
theorem dX0_remove_11 : decode cX0_remove 11 = .ok (.getfield 9, 3) := by decide +kernel
theorem dX0_remove_14 : decode cX0_remove 14 = .ok (.iload_n 1, 1) := by decide +kernel
theorem dX0_remove_15 : decode cX0_remove 15 = .ok (.iaload, 1) := by decide +kernel
theorem dX0_remove_16 : decode cX0_remove 16 = .ok (.istore_n 2, 1) := by decide +kernel
theorem dX0_remove_17 : decode cX0_remove 17 = .ok (.aload_n 0, 1) := by decide +kernel
theorem dX0_remove_18 : decode cX0_remove 18 = .ok (.dup, 1) := by decide +kernel
theorem dX0_remove_19 : decode cX0_remove 19 = .ok (.getfield 15, 3) := by decide +kernel
theorem dX0_remove_22 : decode cX0_remove 22 = .ok (.iconst 1, 1) := by decide +kernel
theorem dX0_remove_23 : decode cX0_remove 23 = .ok (.isub, 1) := by decide +kernel
theorem dX0_remove_24 : decode cX0_remove 24 = .ok (.putfield 15, 3) := by decide +kernel
theorem dX0_remove_27 : decode cX0_remove 27 = .ok (.iload_n 1, 1) := by decide +kernel
theorem dX0_remove_28 : decode cX0_remove 28 = .ok (.istore_n 3, 1) := by decide +kernel
theorem dX0_remove_29 : decode cX0_remove 29 = .ok (.iload_n 3, 1) := by decide +kernel
theorem dX0_remove_30 : decode cX0_remove 30 = .ok (.aload_n 0, 1) := by decide +kernel
theorem dX0_remove_31 : decode cX0_remove 31 = .ok (.getfield 15, 3) := by decide +kernel
theorem dX0_remove_34 : decode cX0_remove 34 = .ok (.if_icmp .ge 23, 3) := by decide +kernel
theorem dX0_remove_37 : decode cX0_remove 37 = .ok (.aload_n 0, 1) := by decide +kernel
theorem dX0_remove_38 : decode cX0_remove 38 = .ok (.getfield 9, 3) := by decide +kernel
theorem dX0_remove_41 : decode cX0_remove 41 = .ok (.iload_n 3, 1) := by decide +kernel
theorem dX0_remove_42 : decode cX0_remove 42 = .ok (.aload_n 0, 1) := by decide +kernel
theorem dX0_remove_43 : decode cX0_remove 43 = .ok (.getfield 9, 3) := by decide +kernel
theorem dX0_remove_46 : decode cX0_remove 46 = .ok (.iload_n 3, 1) := by decide +kernel
theorem dX0_remove_47 : decode cX0_remove 47 = .ok (.iconst 1, 1) := by decide +kernel
theorem dX0_remove_48 : decode cX0_remove 48 = .ok (.iadd, 1) := by decide +kernel
theorem dX0_remove_49 : decode cX0_remove 49 = .ok (.iaload, 1) := by decide +kernel
theorem dX0_remove_50 : decode cX0_remove 50 = .ok (.iastore, 1) := by decide +kernel
theorem dX0_remove_51 : decode cX0_remove 51 = .ok (.iinc 3 1, 3) := by decide +kernel
theorem dX0_remove_54 : decode cX0_remove 54 = .ok (.goto (-25), 3) := by decide +kernel
theorem dX0_remove_57 : decode cX0_remove 57 = .ok (.iload_n 2, 1) := by decide +kernel
theorem dX0_remove_58 : decode cX0_remove 58 = .ok (.ireturn, 1) := by decide +kernel
theorem dX1_init_0 : decode cX1_init 0 = .ok (.aload_n 0, 1) := by decide +kernel
theorem dX1_init_1 : decode cX1_init 1 = .ok (.invokespecial 3, 3) := by decide +kernel
theorem dX1_init_4 : decode cX1_init 4 = .ok (.aload_n 0, 1) := by decide +kernel
theorem dX1_init_5 : decode cX1_init 5 = .ok (.bipush 16, 2) := by decide +kernel
theorem dX1_init_7 : decode cX1_init 7 = .ok (.newarray .int, 2) := by decide +kernel
theorem dX1_init_9 : decode cX1_init 9 = .ok (.putfield 9, 3) := by decide +kernel
theorem dX1_init_12 : decode cX1_init 12 = .ok (.aload_n 0, 1) := by decide +kernel
theorem dX1_init_13 : decode cX1_init 13 = .ok (.bipush 16, 2) := by decide +kernel
theorem dX1_init_15 : decode cX1_init 15 = .ok (.newarray .int, 2) := by decide +kernel
theorem dX1_init_17 : decode cX1_init 17 = .ok (.putfield 15, 3) := by decide +kernel
theorem dX1_init_20 : decode cX1_init 20 = .ok (.aload_n 0, 1) := by decide +kernel
theorem dX1_init_21 : decode cX1_init 21 = .ok (.bipush 16, 2) := by decide +kernel
theorem dX1_init_23 : decode cX1_init 23 = .ok (.newarray .int, 2) := by decide +kernel
theorem dX1_init_25 : decode cX1_init 25 = .ok (.putfield 18, 3) := by decide +kernel
theorem dX1_init_28 : decode cX1_init 28 = .ok (.aload_n 0, 1) := by decide +kernel
theorem dX1_init_29 : decode cX1_init 29 = .ok (.bipush 16, 2) := by decide +kernel
theorem dX1_init_31 : decode cX1_init 31 = .ok (.newarray .int, 2) := by decide +kernel
theorem dX1_init_33 : decode cX1_init 33 = .ok (.putfield 21, 3) := by decide +kernel
theorem dX1_init_36 : decode cX1_init 36 = .ok (.aload_n 0, 1) := by decide +kernel
theorem dX1_init_37 : decode cX1_init 37 = .ok (.bipush 16, 2) := by decide +kernel
theorem dX1_init_39 : decode cX1_init 39 = .ok (.newarray .int, 2) := by decide +kernel
theorem dX1_init_41 : decode cX1_init 41 = .ok (.putfield 24, 3) := by decide +kernel
theorem dX1_init_44 : decode cX1_init 44 = .ok (.return_, 1) := by decide +kernel
theorem dX1_isVariable_0 : decode cX1_isVariable 0 = .ok (.iload_n 0, 1) := by decide +kernel
theorem dX1_isVariable_1 : decode cX1_isVariable 1 = .ok (.ifCond .lt 13, 3) := by decide +kernel
theorem dX1_isVariable_4 : decode cX1_isVariable 4 = .ok (.iload_n 0, 1) := by decide +kernel
theorem dX1_isVariable_5 : decode cX1_isVariable 5 = .ok (.bipush 6, 2) := by decide +kernel
theorem dX1_isVariable_7 : decode cX1_isVariable 7 = .ok (.if_icmp .ge 7, 3) := by decide +kernel
theorem dX1_isVariable_10 : decode cX1_isVariable 10 = .ok (.iconst 1, 1) := by decide +kernel
theorem dX1_isVariable_11 : decode cX1_isVariable 11 = .ok (.goto 4, 3) := by decide +kernel
theorem dX1_isVariable_14 : decode cX1_isVariable 14 = .ok (.iconst 0, 1) := by decide +kernel
theorem dX1_isVariable_15 : decode cX1_isVariable 15 = .ok (.ireturn, 1) := by decide +kernel
set_option maxRecDepth 20000 in
theorem ggX1_isAsTold_X1_isVariable : GoodIn wsX1_isAsTold wsX1_isVariable := goodIn_r _ [4] (by decide +kernel) (by decide +kernel)
set_option maxRecDepth 20000 in
theorem gX1_isAsTold_X1_isVariable : GoodIn wsX1_isAsTold (va_wsS RX1 27 yX1_isVariable wsX1_isVariable) := goodIn_app (goodIn_of _ (by decide +kernel)) ggX1_isAsTold_X1_isVariable
theorem dX1_isAsTold_0 : decode cX1_isAsTold 0 = .ok (.iload_n 0, 1) := by decide +kernel
theorem dX1_isAsTold_1 : decode cX1_isAsTold 1 = .ok (.tableswitch 70 0 6 #[45, 50, 50, 50, 45, 43, 50], 43) := by decide +kernel
theorem dX1_isAsTold_44 : decode cX1_isAsTold 44 = .ok (.iconst 1, 1) := by decide +kernel
theorem dX1_isAsTold_45 : decode cX1_isAsTold 45 = .ok (.ireturn, 1) := by decide +kernel
theorem dX1_isAsTold_46 : decode cX1_isAsTold 46 = .ok (.iload_n 1, 1) := by decide +kernel
theorem dX1_isAsTold_47 : decode cX1_isAsTold 47 = .ok (.invokestatic 27, 3) := by decide +kernel
theorem dX1_isAsTold_50 : decode cX1_isAsTold 50 = .ok (.ireturn, 1) := by decide +kernel
theorem dX1_isAsTold_51 : decode cX1_isAsTold 51 = .ok (.iload_n 1, 1) := by decide +kernel
theorem dX1_isAsTold_52 : decode cX1_isAsTold 52 = .ok (.invokestatic 27, 3) := by decide +kernel
theorem dX1_isAsTold_55 : decode cX1_isAsTold 55 = .ok (.ifCond .eq 14, 3) := by decide +kernel
theorem dX1_isAsTold_58 : decode cX1_isAsTold 58 = .ok (.iload_n 2, 1) := by decide +kernel
theorem dX1_isAsTold_59 : decode cX1_isAsTold 59 = .ok (.invokestatic 27, 3) := by decide +kernel
theorem dX1_isAsTold_62 : decode cX1_isAsTold 62 = .ok (.ifCond .eq 7, 3) := by decide +kernel
theorem dX1_isAsTold_65 : decode cX1_isAsTold 65 = .ok (.iconst 1, 1) := by decide +kernel
theorem dX1_isAsTold_66 : decode cX1_isAsTold 66 = .ok (.goto 4, 3) := by decide +kernel
theorem dX1_isAsTold_69 : decode cX1_isAsTold 69 = .ok (.iconst 0, 1) := by decide +kernel
theorem dX1_isAsTold_70 : decode cX1_isAsTold 70 = .ok (.ireturn, 1) := by decide +kernel
theorem dX1_isAsTold_71 : decode cX1_isAsTold 71 = .ok (.iconst 0, 1) := by decide +kernel
theorem dX1_isAsTold_72 : decode cX1_isAsTold 72 = .ok (.ireturn, 1) := by decide +kernel
theorem dX1_has_0 : decode cX1_has 0 = .ok (.iload_n 1, 1) := by decide +kernel
theorem dX1_has_1 : decode cX1_has 1 = .ok (.ifCond .lt 15, 3) := by decide +kernel
theorem dX1_has_4 : decode cX1_has 4 = .ok (.iload_n 1, 1) := by decide +kernel
theorem dX1_has_5 : decode cX1_has 5 = .ok (.aload_n 0, 1) := by decide +kernel
theorem dX1_has_6 : decode cX1_has 6 = .ok (.getfield 31, 3) := by decide +kernel
theorem dX1_has_9 : decode cX1_has 9 = .ok (.if_icmp .ge 7, 3) := by decide +kernel
theorem dX1_has_12 : decode cX1_has 12 = .ok (.iconst 1, 1) := by decide +kernel
theorem dX1_has_13 : decode cX1_has 13 = .ok (.goto 4, 3) := by decide +kernel
theorem dX1_has_16 : decode cX1_has 16 = .ok (.iconst 0, 1) := by decide +kernel
theorem dX1_has_17 : decode cX1_has 17 = .ok (.ireturn, 1) := by decide +kernel
set_option maxRecDepth 20000 in
theorem ggX1_add_X1_has : GoodIn wsX1_add wsX1_has := goodIn_r _ [11, 1, 12, 13, 14, 15, 16, 17] (by decide +kernel) (by decide +kernel)
set_option maxRecDepth 20000 in
theorem gX1_add_X1_has : GoodIn wsX1_add (wsV RX1 35 RX1 yX1_has wsX1_has) := goodIn_app (goodIn_of _ (by decide +kernel)) ggX1_add_X1_has
theorem dX1_add_0 : decode cX1_add 0 = .ok (.aload_n 0, 1) := by decide +kernel
theorem dX1_add_1 : decode cX1_add 1 = .ok (.getfield 31, 3) := by decide +kernel
theorem dX1_add_4 : decode cX1_add 4 = .ok (.bipush 16, 2) := by decide +kernel
theorem dX1_add_6 : decode cX1_add 6 = .ok (.if_icmp .lt 6, 3) := by decide +kernel
theorem dX1_add_9 : decode cX1_add 9 = .ok (.bipush (-104), 2) := by decide +kernel
theorem dX1_add_11 : decode cX1_add 11 = .ok (.ireturn, 1) := by decide +kernel
theorem dX1_add_12 : decode cX1_add 12 = .ok (.aload_n 0, 1) := by decide +kernel
theorem dX1_add_13 : decode cX1_add 13 = .ok (.getfield 9, 3) := by decide +kernel
theorem dX1_add_16 : decode cX1_add 16 = .ok (.aload_n 0, 1) := by decide +kernel
theorem dX1_add_17 : decode cX1_add 17 = .ok (.getfield 31, 3) := by decide +kernel
theorem dX1_add_20 : decode cX1_add 20 = .ok (.iload_n 1, 1) := by decide +kernel
theorem dX1_add_21 : decode cX1_add 21 = .ok (.iastore, 1) := by decide +kernel
theorem dX1_add_22 : decode cX1_add 22 = .ok (.aload_n 0, 1) := by decide +kernel
theorem dX1_add_23 : decode cX1_add 23 = .ok (.getfield 15, 3) := by decide +kernel
theorem dX1_add_26 : decode cX1_add 26 = .ok (.aload_n 0, 1) := by decide +kernel
theorem dX1_add_27 : decode cX1_add 27 = .ok (.getfield 31, 3) := by decide +kernel
theorem dX1_add_30 : decode cX1_add 30 = .ok (.iload_n 2, 1) := by decide +kernel
theorem dX1_add_31 : decode cX1_add 31 = .ok (.iastore, 1) := by decide +kernel
theorem dX1_add_32 : decode cX1_add 32 = .ok (.aload_n 0, 1) := by decide +kernel
theorem dX1_add_33 : decode cX1_add 33 = .ok (.getfield 18, 3) := by decide +kernel
theorem dX1_add_36 : decode cX1_add 36 = .ok (.aload_n 0, 1) := by decide +kernel
theorem dX1_add_37 : decode cX1_add 37 = .ok (.getfield 31, 3) := by decide +kernel
theorem dX1_add_40 : decode cX1_add 40 = .ok (.iload_n 3, 1) := by decide +kernel
theorem dX1_add_41 : decode cX1_add 41 = .ok (.iastore, 1) := by decide +kernel
theorem dX1_add_42 : decode cX1_add 42 = .ok (.aload_n 0, 1) := by decide +kernel
theorem dX1_add_43 : decode cX1_add 43 = .ok (.getfield 21, 3) := by decide +kernel
theorem dX1_add_46 : decode cX1_add 46 = .ok (.aload_n 0, 1) := by decide +kernel
theorem dX1_add_47 : decode cX1_add 47 = .ok (.getfield 31, 3) := by decide +kernel
theorem dX1_add_50 : decode cX1_add 50 = .ok (.iload 4, 2) := by decide +kernel
theorem dX1_add_52 : decode cX1_add 52 = .ok (.iastore, 1) := by decide +kernel
theorem dX1_add_53 : decode cX1_add 53 = .ok (.aload_n 0, 1) := by decide +kernel
theorem dX1_add_54 : decode cX1_add 54 = .ok (.getfield 24, 3) := by decide +kernel
theorem dX1_add_57 : decode cX1_add 57 = .ok (.aload_n 0, 1) := by decide +kernel
theorem dX1_add_58 : decode cX1_add 58 = .ok (.getfield 31, 3) := by decide +kernel
theorem dX1_add_61 : decode cX1_add 61 = .ok (.iload 5, 2) := by decide +kernel
theorem dX1_add_63 : decode cX1_add 63 = .ok (.iastore, 1) := by decide +kernel
theorem dX1_add_64 : decode cX1_add 64 = .ok (.aload_n 0, 1) := by decide +kernel
theorem dX1_add_65 : decode cX1_add 65 = .ok (.iload 5, 2) := by decide +kernel
theorem dX1_add_67 : decode cX1_add 67 = .ok (.invokevirtual 35, 3) := by decide +kernel
theorem dX1_add_70 : decode cX1_add 70 = .ok (.ifCond .eq 14, 3) := by decide +kernel
theorem dX1_add_73 : decode cX1_add 73 = .ok (.aload_n 0, 1) := by decide +kernel
theorem dX1_add_74 : decode cX1_add 74 = .ok (.getfield 24, 3) := by decide +kernel
theorem dX1_add_77 : decode cX1_add 77 = .ok (.iload 5, 2) := by decide +kernel
theorem dX1_add_79 : decode cX1_add 79 = .ok (.aload_n 0, 1) := by decide +kernel
theorem dX1_add_80 : decode cX1_add 80 = .ok (.getfield 31, 3) := by decide +kernel
theorem dX1_add_83 : decode cX1_add 83 = .ok (.iastore, 1) := by decide +kernel
theorem dX1_add_84 : decode cX1_add 84 = .ok (.aload_n 0, 1) := by decide +kernel
theorem dX1_add_85 : decode cX1_add 85 = .ok (.dup, 1) := by decide +kernel
theorem dX1_add_86 : decode cX1_add 86 = .ok (.getfield 31, 3) := by decide +kernel
theorem dX1_add_89 : decode cX1_add 89 = .ok (.dup_x1, 1) := by decide +kernel
theorem dX1_add_90 : decode cX1_add 90 = .ok (.iconst 1, 1) := by decide +kernel
theorem dX1_add_91 : decode cX1_add 91 = .ok (.iadd, 1) := by decide +kernel
theorem dX1_add_92 : decode cX1_add 92 = .ok (.putfield 31, 3) := by decide +kernel
theorem dX1_add_95 : decode cX1_add 95 = .ok (.ireturn, 1) := by decide +kernel
theorem dX1_forget_0 : decode cX1_forget 0 = .ok (.aload_n 0, 1) := by decide +kernel
theorem dX1_forget_1 : decode cX1_forget 1 = .ok (.iconst 0, 1) := by decide +kernel
theorem dX1_forget_2 : decode cX1_forget 2 = .ok (.putfield 31, 3) := by decide +kernel
theorem dX1_forget_5 : decode cX1_forget 5 = .ok (.return_, 1) := by decide +kernel
set_option maxRecDepth 20000 in
theorem ggX1_kindOf_X1_has : GoodIn wsX1_kindOf wsX1_has := goodIn_r _ [6, 7, 8, 9, 10, 11, 12, 13] (by decide +kernel) (by decide +kernel)
set_option maxRecDepth 20000 in
theorem gX1_kindOf_X1_has : GoodIn wsX1_kindOf (wsV RX1 35 RX1 yX1_has wsX1_has) := goodIn_app (goodIn_of _ (by decide +kernel)) ggX1_kindOf_X1_has
theorem dX1_kindOf_0 : decode cX1_kindOf 0 = .ok (.aload_n 0, 1) := by decide +kernel
theorem dX1_kindOf_1 : decode cX1_kindOf 1 = .ok (.iload_n 1, 1) := by decide +kernel
theorem dX1_kindOf_2 : decode cX1_kindOf 2 = .ok (.invokevirtual 35, 3) := by decide +kernel
theorem dX1_kindOf_5 : decode cX1_kindOf 5 = .ok (.ifCond .eq 12, 3) := by decide +kernel
theorem dX1_kindOf_8 : decode cX1_kindOf 8 = .ok (.aload_n 0, 1) := by decide +kernel
theorem dX1_kindOf_9 : decode cX1_kindOf 9 = .ok (.getfield 9, 3) := by decide +kernel
theorem dX1_kindOf_12 : decode cX1_kindOf 12 = .ok (.iload_n 1, 1) := by decide +kernel
theorem dX1_kindOf_13 : decode cX1_kindOf 13 = .ok (.iaload, 1) := by decide +kernel
theorem dX1_kindOf_14 : decode cX1_kindOf 14 = .ok (.goto 4, 3) := by decide +kernel
theorem dX1_kindOf_17 : decode cX1_kindOf 17 = .ok (.iconst 5, 1) := by decide +kernel
theorem dX1_kindOf_18 : decode cX1_kindOf 18 = .ok (.ireturn, 1) := by decide +kernel
set_option maxRecDepth 20000 in
theorem ggX1_roleOf_X1_has : GoodIn wsX1_roleOf wsX1_has := goodIn_r _ [6, 7, 8, 9, 10, 11, 12, 13] (by decide +kernel) (by decide +kernel)
set_option maxRecDepth 20000 in
theorem gX1_roleOf_X1_has : GoodIn wsX1_roleOf (wsV RX1 35 RX1 yX1_has wsX1_has) := goodIn_app (goodIn_of _ (by decide +kernel)) ggX1_roleOf_X1_has
theorem dX1_roleOf_0 : decode cX1_roleOf 0 = .ok (.aload_n 0, 1) := by decide +kernel
theorem dX1_roleOf_1 : decode cX1_roleOf 1 = .ok (.iload_n 1, 1) := by decide +kernel
theorem dX1_roleOf_2 : decode cX1_roleOf 2 = .ok (.invokevirtual 35, 3) := by decide +kernel
theorem dX1_roleOf_5 : decode cX1_roleOf 5 = .ok (.ifCond .eq 12, 3) := by decide +kernel
theorem dX1_roleOf_8 : decode cX1_roleOf 8 = .ok (.aload_n 0, 1) := by decide +kernel
theorem dX1_roleOf_9 : decode cX1_roleOf 9 = .ok (.getfield 21, 3) := by decide +kernel
theorem dX1_roleOf_12 : decode cX1_roleOf 12 = .ok (.iload_n 1, 1) := by decide +kernel
theorem dX1_roleOf_13 : decode cX1_roleOf 13 = .ok (.iaload, 1) := by decide +kernel
theorem dX1_roleOf_14 : decode cX1_roleOf 14 = .ok (.goto 4, 3) := by decide +kernel
theorem dX1_roleOf_17 : decode cX1_roleOf 17 = .ok (.iconst (-1), 1) := by decide +kernel
theorem dX1_roleOf_18 : decode cX1_roleOf 18 = .ok (.ireturn, 1) := by decide +kernel
set_option maxRecDepth 20000 in
theorem ggX1_mateOf_X1_has : GoodIn wsX1_mateOf wsX1_has := goodIn_r _ [6, 7, 8, 9, 10, 11, 12, 13] (by decide +kernel) (by decide +kernel)
set_option maxRecDepth 20000 in
theorem gX1_mateOf_X1_has : GoodIn wsX1_mateOf (wsV RX1 35 RX1 yX1_has wsX1_has) := goodIn_app (goodIn_of _ (by decide +kernel)) ggX1_mateOf_X1_has
theorem dX1_mateOf_0 : decode cX1_mateOf 0 = .ok (.aload_n 0, 1) := by decide +kernel
theorem dX1_mateOf_1 : decode cX1_mateOf 1 = .ok (.iload_n 1, 1) := by decide +kernel
theorem dX1_mateOf_2 : decode cX1_mateOf 2 = .ok (.invokevirtual 35, 3) := by decide +kernel
theorem dX1_mateOf_5 : decode cX1_mateOf 5 = .ok (.ifCond .eq 12, 3) := by decide +kernel
theorem dX1_mateOf_8 : decode cX1_mateOf 8 = .ok (.aload_n 0, 1) := by decide +kernel
theorem dX1_mateOf_9 : decode cX1_mateOf 9 = .ok (.getfield 24, 3) := by decide +kernel
theorem dX1_mateOf_12 : decode cX1_mateOf 12 = .ok (.iload_n 1, 1) := by decide +kernel
theorem dX1_mateOf_13 : decode cX1_mateOf 13 = .ok (.iaload, 1) := by decide +kernel
theorem dX1_mateOf_14 : decode cX1_mateOf 14 = .ok (.goto 4, 3) := by decide +kernel
theorem dX1_mateOf_17 : decode cX1_mateOf 17 = .ok (.iconst (-1), 1) := by decide +kernel
theorem dX1_mateOf_18 : decode cX1_mateOf 18 = .ok (.ireturn, 1) := by decide +kernel
set_option maxRecDepth 20000 in
theorem ggX1_tell_X1_has : GoodIn wsX1_tell wsX1_has := goodIn_r _ [10, 11, 12, 13, 14, 15, 16, 17] (by decide +kernel) (by decide +kernel)
set_option maxRecDepth 20000 in
theorem gX1_tell_X1_has : GoodIn wsX1_tell (wsV RX1 35 RX1 yX1_has wsX1_has) := goodIn_app (goodIn_of _ (by decide +kernel)) ggX1_tell_X1_has
theorem dX1_tell_0 : decode cX1_tell 0 = .ok (.aload_n 0, 1) := by decide +kernel
theorem dX1_tell_1 : decode cX1_tell 1 = .ok (.iload_n 1, 1) := by decide +kernel
theorem dX1_tell_2 : decode cX1_tell 2 = .ok (.invokevirtual 35, 3) := by decide +kernel
theorem dX1_tell_5 : decode cX1_tell 5 = .ok (.ifCond .ne 5, 3) := by decide +kernel
theorem dX1_tell_8 : decode cX1_tell 8 = .ok (.iconst (-1), 1) := by decide +kernel
theorem dX1_tell_9 : decode cX1_tell 9 = .ok (.ireturn, 1) := by decide +kernel
theorem dX1_tell_10 : decode cX1_tell 10 = .ok (.iload_n 2, 1) := by decide +kernel
theorem dX1_tell_11 : decode cX1_tell 11 = .ok (.tableswitch 57 0 3 #[29, 36, 43, 50], 29) := by decide +kernel
theorem dX1_tell_40 : decode cX1_tell 40 = .ok (.aload_n 0, 1) := by decide +kernel
theorem dX1_tell_41 : decode cX1_tell 41 = .ok (.getfield 9, 3) := by decide +kernel
theorem dX1_tell_44 : decode cX1_tell 44 = .ok (.iload_n 1, 1) := by decide +kernel
theorem dX1_tell_45 : decode cX1_tell 45 = .ok (.iaload, 1) := by decide +kernel
theorem dX1_tell_46 : decode cX1_tell 46 = .ok (.ireturn, 1) := by decide +kernel
theorem dX1_tell_47 : decode cX1_tell 47 = .ok (.aload_n 0, 1) := by decide +kernel
theorem dX1_tell_48 : decode cX1_tell 48 = .ok (.getfield 15, 3) := by decide +kernel
theorem dX1_tell_51 : decode cX1_tell 51 = .ok (.iload_n 1, 1) := by decide +kernel
theorem dX1_tell_52 : decode cX1_tell 52 = .ok (.iaload, 1) := by decide +kernel
theorem dX1_tell_53 : decode cX1_tell 53 = .ok (.ireturn, 1) := by decide +kernel
theorem dX1_tell_54 : decode cX1_tell 54 = .ok (.aload_n 0, 1) := by decide +kernel
theorem dX1_tell_55 : decode cX1_tell 55 = .ok (.getfield 18, 3) := by decide +kernel
theorem dX1_tell_58 : decode cX1_tell 58 = .ok (.iload_n 1, 1) := by decide +kernel
theorem dX1_tell_59 : decode cX1_tell 59 = .ok (.iaload, 1) := by decide +kernel
theorem dX1_tell_60 : decode cX1_tell 60 = .ok (.ireturn, 1) := by decide +kernel
theorem dX1_tell_61 : decode cX1_tell 61 = .ok (.aload_n 0, 1) := by decide +kernel
theorem dX1_tell_62 : decode cX1_tell 62 = .ok (.getfield 21, 3) := by decide +kernel
theorem dX1_tell_65 : decode cX1_tell 65 = .ok (.iload_n 1, 1) := by decide +kernel
theorem dX1_tell_66 : decode cX1_tell 66 = .ok (.iaload, 1) := by decide +kernel
theorem dX1_tell_67 : decode cX1_tell 67 = .ok (.ireturn, 1) := by decide +kernel
theorem dX1_tell_68 : decode cX1_tell 68 = .ok (.aload_n 0, 1) := by decide +kernel
theorem dX1_tell_69 : decode cX1_tell 69 = .ok (.getfield 24, 3) := by decide +kernel
theorem dX1_tell_72 : decode cX1_tell 72 = .ok (.iload_n 1, 1) := by decide +kernel
theorem dX1_tell_73 : decode cX1_tell 73 = .ok (.iaload, 1) := by decide +kernel
theorem dX1_tell_74 : decode cX1_tell 74 = .ok (.ireturn, 1) := by decide +kernel
theorem dX1_manyOf_0 : decode cX1_manyOf 0 = .ok (.iconst 0, 1) := by decide +kernel
theorem dX1_manyOf_1 : decode cX1_manyOf 1 = .ok (.istore_n 2, 1) := by decide +kernel
theorem dX1_manyOf_2 : decode cX1_manyOf 2 = .ok (.iconst 0, 1) := by decide +kernel
theorem dX1_manyOf_3 : decode cX1_manyOf 3 = .ok (.istore_n 3, 1) := by decide +kernel
theorem dX1_manyOf_4 : decode cX1_manyOf 4 = .ok (.iload_n 3, 1) := by decide +kernel
theorem dX1_manyOf_5 : decode cX1_manyOf 5 = .ok (.aload_n 0, 1) := by decide +kernel
theorem dX1_manyOf_6 : decode cX1_manyOf 6 = .ok (.getfield 31, 3) := by decide +kernel
theorem dX1_manyOf_9 : decode cX1_manyOf 9 = .ok (.if_icmp .ge 27, 3) := by decide +kernel
theorem dX1_manyOf_12 : decode cX1_manyOf 12 = .ok (.iload_n 2, 1) := by decide +kernel
theorem dX1_manyOf_13 : decode cX1_manyOf 13 = .ok (.aload_n 0, 1) := by decide +kernel
theorem dX1_manyOf_14 : decode cX1_manyOf 14 = .ok (.getfield 21, 3) := by decide +kernel
theorem dX1_manyOf_17 : decode cX1_manyOf 17 = .ok (.iload_n 3, 1) := by decide +kernel
theorem dX1_manyOf_18 : decode cX1_manyOf 18 = .ok (.iaload, 1) := by decide +kernel
theorem dX1_manyOf_19 : decode cX1_manyOf 19 = .ok (.iload_n 1, 1) := by decide +kernel
theorem dX1_manyOf_20 : decode cX1_manyOf 20 = .ok (.if_icmp .ne 7, 3) := by decide +kernel
theorem dX1_manyOf_23 : decode cX1_manyOf 23 = .ok (.iconst 1, 1) := by decide +kernel
theorem dX1_manyOf_24 : decode cX1_manyOf 24 = .ok (.goto 4, 3) := by decide +kernel
theorem dX1_manyOf_27 : decode cX1_manyOf 27 = .ok (.iconst 0, 1) := by decide +kernel
theorem dX1_manyOf_28 : decode cX1_manyOf 28 = .ok (.iadd, 1) := by decide +kernel
theorem dX1_manyOf_29 : decode cX1_manyOf 29 = .ok (.istore_n 2, 1) := by decide +kernel
theorem dX1_manyOf_30 : decode cX1_manyOf 30 = .ok (.iinc 3 1, 3) := by decide +kernel
theorem dX1_manyOf_33 : decode cX1_manyOf 33 = .ok (.goto (-29), 3) := by decide +kernel
theorem dX1_manyOf_36 : decode cX1_manyOf 36 = .ok (.iload_n 2, 1) := by decide +kernel
theorem dX1_manyOf_37 : decode cX1_manyOf 37 = .ok (.ireturn, 1) := by decide +kernel
set_option maxRecDepth 20000 in
theorem ggX1_areBound_X1_kindOf : GoodIn wsX1_areBound wsX1_kindOf := goodIn_r _ [5, 6, 7, 8, 9, 4, 10, 11, 22, 23, 24, 25, 26, 27] (by decide +kernel) (by decide +kernel)
set_option maxRecDepth 20000 in
theorem gX1_areBound_X1_kindOf : GoodIn wsX1_areBound (wsV RX1 38 RX1 yX1_kindOf wsX1_kindOf) := goodIn_app (goodIn_of _ (by decide +kernel)) ggX1_areBound_X1_kindOf
set_option maxRecDepth 20000 in
theorem ggX1_areBound_X1_writes : GoodIn wsX1_areBound wsX1_writes := goodIn_r _ [15, 16, 1, 2, 3, 4, 5, 6, 7, 8, 9, 10, 11, 22, 23, 24, 25, 26, 27] (by decide +kernel) (by decide +kernel)
set_option maxRecDepth 20000 in
theorem gX1_areBound_X1_writes : GoodIn wsX1_areBound (wsV RX1 42 RX1 yX1_writes wsX1_writes) := goodIn_app (goodIn_of _ (by decide +kernel)) ggX1_areBound_X1_writes
set_option maxRecDepth 20000 in
theorem ggX1_areBound_X1_reads : GoodIn wsX1_areBound wsX1_reads := goodIn_r _ [20, 21, 16, 1, 2, 3, 4, 5, 6, 7, 8, 9, 10, 11, 22, 23, 24, 25, 26, 27] (by decide +kernel) (by decide +kernel)
set_option maxRecDepth 20000 in
theorem gX1_areBound_X1_reads : GoodIn wsX1_areBound (wsV RX1 45 RX1 yX1_reads wsX1_reads) := goodIn_app (goodIn_of _ (by decide +kernel)) ggX1_areBound_X1_reads
theorem dX1_areBound_0 : decode cX1_areBound 0 = .ok (.aload_n 0, 1) := by decide +kernel
theorem dX1_areBound_1 : decode cX1_areBound 1 = .ok (.iload_n 1, 1) := by decide +kernel
theorem dX1_areBound_2 : decode cX1_areBound 2 = .ok (.invokevirtual 38, 3) := by decide +kernel
theorem dX1_areBound_5 : decode cX1_areBound 5 = .ok (.iconst 4, 1) := by decide +kernel
theorem dX1_areBound_6 : decode cX1_areBound 6 = .ok (.if_icmp .ne 14, 3) := by decide +kernel
theorem dX1_areBound_9 : decode cX1_areBound 9 = .ok (.aload_n 0, 1) := by decide +kernel
theorem dX1_areBound_10 : decode cX1_areBound 10 = .ok (.iload_n 2, 1) := by decide +kernel
theorem dX1_areBound_11 : decode cX1_areBound 11 = .ok (.invokevirtual 38, 3) := by decide +kernel
theorem dX1_areBound_14 : decode cX1_areBound 14 = .ok (.iconst 4, 1) := by decide +kernel
theorem dX1_areBound_15 : decode cX1_areBound 15 = .ok (.if_icmp .ne 5, 3) := by decide +kernel
theorem dX1_areBound_18 : decode cX1_areBound 18 = .ok (.iconst 1, 1) := by decide +kernel
theorem dX1_areBound_19 : decode cX1_areBound 19 = .ok (.ireturn, 1) := by decide +kernel
theorem dX1_areBound_20 : decode cX1_areBound 20 = .ok (.aload_n 0, 1) := by decide +kernel
theorem dX1_areBound_21 : decode cX1_areBound 21 = .ok (.iload_n 1, 1) := by decide +kernel
theorem dX1_areBound_22 : decode cX1_areBound 22 = .ok (.invokevirtual 42, 3) := by decide +kernel
theorem dX1_areBound_25 : decode cX1_areBound 25 = .ok (.istore_n 3, 1) := by decide +kernel
theorem dX1_areBound_26 : decode cX1_areBound 26 = .ok (.aload_n 0, 1) := by decide +kernel
theorem dX1_areBound_27 : decode cX1_areBound 27 = .ok (.iload_n 2, 1) := by decide +kernel
theorem dX1_areBound_28 : decode cX1_areBound 28 = .ok (.invokevirtual 42, 3) := by decide +kernel
theorem dX1_areBound_31 : decode cX1_areBound 31 = .ok (.istore 4, 2) := by decide +kernel
theorem dX1_areBound_33 : decode cX1_areBound 33 = .ok (.iload_n 3, 1) := by decide +kernel
theorem dX1_areBound_34 : decode cX1_areBound 34 = .ok (.aload_n 0, 1) := by decide +kernel
theorem dX1_areBound_35 : decode cX1_areBound 35 = .ok (.iload_n 2, 1) := by decide +kernel
theorem dX1_areBound_36 : decode cX1_areBound 36 = .ok (.invokevirtual 45, 3) := by decide +kernel
theorem dX1_areBound_39 : decode cX1_areBound 39 = .ok (.iload 4, 2) := by decide +kernel
theorem dX1_areBound_41 : decode cX1_areBound 41 = .ok (.ior, 1) := by decide +kernel
theorem dX1_areBound_42 : decode cX1_areBound 42 = .ok (.iand, 1) := by decide +kernel
theorem dX1_areBound_43 : decode cX1_areBound 43 = .ok (.ifCond .ne 14, 3) := by decide +kernel
theorem dX1_areBound_46 : decode cX1_areBound 46 = .ok (.aload_n 0, 1) := by decide +kernel
theorem dX1_areBound_47 : decode cX1_areBound 47 = .ok (.iload_n 1, 1) := by decide +kernel
theorem dX1_areBound_48 : decode cX1_areBound 48 = .ok (.invokevirtual 45, 3) := by decide +kernel
theorem dX1_areBound_51 : decode cX1_areBound 51 = .ok (.iload 4, 2) := by decide +kernel
theorem dX1_areBound_53 : decode cX1_areBound 53 = .ok (.iand, 1) := by decide +kernel
theorem dX1_areBound_54 : decode cX1_areBound 54 = .ok (.ifCond .eq 7, 3) := by decide +kernel
theorem dX1_areBound_57 : decode cX1_areBound 57 = .ok (.iconst 1, 1) := by decide +kernel
theorem dX1_areBound_58 : decode cX1_areBound 58 = .ok (.goto 4, 3) := by decide +kernel
theorem dX1_areBound_61 : decode cX1_areBound 61 = .ok (.iconst 0, 1) := by decide +kernel
theorem dX1_areBound_62 : decode cX1_areBound 62 = .ok (.ireturn, 1) := by decide +kernel
set_option maxRecDepth 20000 in
theorem ggX1_reads_X1_kindOf : GoodIn wsX1_reads wsX1_kindOf := goodIn_r _ [7, 8, 9, 10, 11, 6, 12, 13, 14, 15, 16, 17, 18, 19] (by decide +kernel) (by decide +kernel)
set_option maxRecDepth 20000 in
theorem gX1_reads_X1_kindOf : GoodIn wsX1_reads (wsV RX1 38 RX1 yX1_kindOf wsX1_kindOf) := goodIn_app (goodIn_of _ (by decide +kernel)) ggX1_reads_X1_kindOf
theorem dX1_reads_0 : decode cX1_reads 0 = .ok (.aload_n 0, 1) := by decide +kernel
theorem dX1_reads_1 : decode cX1_reads 1 = .ok (.iload_n 1, 1) := by decide +kernel
theorem dX1_reads_2 : decode cX1_reads 2 = .ok (.invokevirtual 38, 3) := by decide +kernel
theorem dX1_reads_5 : decode cX1_reads 5 = .ok (.tableswitch 75 1 6 #[39, 48, 48, 66, 75, 48], 39) := by decide +kernel
theorem dX1_reads_44 : decode cX1_reads 44 = .ok (.iconst 1, 1) := by decide +kernel
theorem dX1_reads_45 : decode cX1_reads 45 = .ok (.aload_n 0, 1) := by decide +kernel
theorem dX1_reads_46 : decode cX1_reads 46 = .ok (.getfield 18, 3) := by decide +kernel
theorem dX1_reads_49 : decode cX1_reads 49 = .ok (.iload_n 1, 1) := by decide +kernel
theorem dX1_reads_50 : decode cX1_reads 50 = .ok (.iaload, 1) := by decide +kernel
theorem dX1_reads_51 : decode cX1_reads 51 = .ok (.ishl, 1) := by decide +kernel
theorem dX1_reads_52 : decode cX1_reads 52 = .ok (.ireturn, 1) := by decide +kernel
theorem dX1_reads_53 : decode cX1_reads 53 = .ok (.iconst 1, 1) := by decide +kernel
theorem dX1_reads_54 : decode cX1_reads 54 = .ok (.aload_n 0, 1) := by decide +kernel
theorem dX1_reads_55 : decode cX1_reads 55 = .ok (.getfield 15, 3) := by decide +kernel
theorem dX1_reads_58 : decode cX1_reads 58 = .ok (.iload_n 1, 1) := by decide +kernel
theorem dX1_reads_59 : decode cX1_reads 59 = .ok (.iaload, 1) := by decide +kernel
theorem dX1_reads_60 : decode cX1_reads 60 = .ok (.ishl, 1) := by decide +kernel
theorem dX1_reads_61 : decode cX1_reads 61 = .ok (.iconst 1, 1) := by decide +kernel
theorem dX1_reads_62 : decode cX1_reads 62 = .ok (.aload_n 0, 1) := by decide +kernel
theorem dX1_reads_63 : decode cX1_reads 63 = .ok (.getfield 18, 3) := by decide +kernel
theorem dX1_reads_66 : decode cX1_reads 66 = .ok (.iload_n 1, 1) := by decide +kernel
theorem dX1_reads_67 : decode cX1_reads 67 = .ok (.iaload, 1) := by decide +kernel
theorem dX1_reads_68 : decode cX1_reads 68 = .ok (.ishl, 1) := by decide +kernel
theorem dX1_reads_69 : decode cX1_reads 69 = .ok (.ior, 1) := by decide +kernel
theorem dX1_reads_70 : decode cX1_reads 70 = .ok (.ireturn, 1) := by decide +kernel
theorem dX1_reads_71 : decode cX1_reads 71 = .ok (.iconst 1, 1) := by decide +kernel
theorem dX1_reads_72 : decode cX1_reads 72 = .ok (.aload_n 0, 1) := by decide +kernel
theorem dX1_reads_73 : decode cX1_reads 73 = .ok (.getfield 15, 3) := by decide +kernel
theorem dX1_reads_76 : decode cX1_reads 76 = .ok (.iload_n 1, 1) := by decide +kernel
theorem dX1_reads_77 : decode cX1_reads 77 = .ok (.iaload, 1) := by decide +kernel
theorem dX1_reads_78 : decode cX1_reads 78 = .ok (.ishl, 1) := by decide +kernel
theorem dX1_reads_79 : decode cX1_reads 79 = .ok (.ireturn, 1) := by decide +kernel
theorem dX1_reads_80 : decode cX1_reads 80 = .ok (.iconst 0, 1) := by decide +kernel
theorem dX1_reads_81 : decode cX1_reads 81 = .ok (.ireturn, 1) := by decide +kernel
set_option maxRecDepth 20000 in
theorem ggX1_writes_X1_kindOf : GoodIn wsX1_writes wsX1_kindOf := goodIn_r _ [6, 7, 8, 9, 10, 5, 11, 12, 13, 14, 15, 16, 17, 18] (by decide +kernel) (by decide +kernel)
set_option maxRecDepth 20000 in
theorem gX1_writes_X1_kindOf : GoodIn wsX1_writes (wsV RX1 38 RX1 yX1_kindOf wsX1_kindOf) := goodIn_app (goodIn_of _ (by decide +kernel)) ggX1_writes_X1_kindOf
theorem dX1_writes_0 : decode cX1_writes 0 = .ok (.aload_n 0, 1) := by decide +kernel
theorem dX1_writes_1 : decode cX1_writes 1 = .ok (.iload_n 1, 1) := by decide +kernel
theorem dX1_writes_2 : decode cX1_writes 2 = .ok (.invokevirtual 38, 3) := by decide +kernel
theorem dX1_writes_5 : decode cX1_writes 5 = .ok (.istore_n 2, 1) := by decide +kernel
theorem dX1_writes_6 : decode cX1_writes 6 = .ok (.iload_n 2, 1) := by decide +kernel
theorem dX1_writes_7 : decode cX1_writes 7 = .ok (.iconst 4, 1) := by decide +kernel
theorem dX1_writes_8 : decode cX1_writes 8 = .ok (.if_icmp .eq 8, 3) := by decide +kernel
theorem dX1_writes_11 : decode cX1_writes 11 = .ok (.iload_n 2, 1) := by decide +kernel
theorem dX1_writes_12 : decode cX1_writes 12 = .ok (.iconst 5, 1) := by decide +kernel
theorem dX1_writes_13 : decode cX1_writes 13 = .ok (.if_icmp .ne 7, 3) := by decide +kernel
theorem dX1_writes_16 : decode cX1_writes 16 = .ok (.iconst 0, 1) := by decide +kernel
theorem dX1_writes_17 : decode cX1_writes 17 = .ok (.goto 11, 3) := by decide +kernel
theorem dX1_writes_20 : decode cX1_writes 20 = .ok (.iconst 1, 1) := by decide +kernel
theorem dX1_writes_21 : decode cX1_writes 21 = .ok (.aload_n 0, 1) := by decide +kernel
theorem dX1_writes_22 : decode cX1_writes 22 = .ok (.getfield 15, 3) := by decide +kernel
theorem dX1_writes_25 : decode cX1_writes 25 = .ok (.iload_n 1, 1) := by decide +kernel
theorem dX1_writes_26 : decode cX1_writes 26 = .ok (.iaload, 1) := by decide +kernel
theorem dX1_writes_27 : decode cX1_writes 27 = .ok (.ishl, 1) := by decide +kernel
theorem dX1_writes_28 : decode cX1_writes 28 = .ok (.ireturn, 1) := by decide +kernel
theorem dX2_init_0 : decode cX2_init 0 = .ok (.aload_n 0, 1) := by decide +kernel
theorem dX2_init_1 : decode cX2_init 1 = .ok (.invokespecial 3, 3) := by decide +kernel
theorem dX2_init_4 : decode cX2_init 4 = .ok (.aload_n 0, 1) := by decide +kernel
theorem dX2_init_5 : decode cX2_init 5 = .ok (.bipush 6, 2) := by decide +kernel
theorem dX2_init_7 : decode cX2_init 7 = .ok (.newarray .int, 2) := by decide +kernel
theorem dX2_init_9 : decode cX2_init 9 = .ok (.putfield 9, 3) := by decide +kernel
theorem dX2_init_12 : decode cX2_init 12 = .ok (.aload_n 0, 1) := by decide +kernel
theorem dX2_init_13 : decode cX2_init 13 = .ok (.bipush 16, 2) := by decide +kernel
theorem dX2_init_15 : decode cX2_init 15 = .ok (.newarray .int, 2) := by decide +kernel
theorem dX2_init_17 : decode cX2_init 17 = .ok (.putfield 15, 3) := by decide +kernel
theorem dX2_init_20 : decode cX2_init 20 = .ok (.return_, 1) := by decide +kernel
set_option maxRecDepth 20000 in
theorem ggX2_forget_J7_fill_53178 : GoodIn wsX2_forget wsJ7_fill_53178 := goodIn_r _ [6] (by decide +kernel) (by decide +kernel)
set_option maxRecDepth 20000 in
theorem gX2_forget_J7_fill_53178 : GoodIn wsX2_forget (va_wsS RX2 18 yJ7_fill_53178 wsJ7_fill_53178) := goodIn_app (goodIn_of _ (by decide +kernel)) ggX2_forget_J7_fill_53178
theorem dX2_forget_0 : decode cX2_forget 0 = .ok (.aload_n 0, 1) := by decide +kernel
theorem dX2_forget_1 : decode cX2_forget 1 = .ok (.getfield 9, 3) := by decide +kernel
theorem dX2_forget_4 : decode cX2_forget 4 = .ok (.iconst 0, 1) := by decide +kernel
theorem dX2_forget_5 : decode cX2_forget 5 = .ok (.invokestatic 18, 3) := by decide +kernel
theorem dX2_forget_8 : decode cX2_forget 8 = .ok (.aload_n 0, 1) := by decide +kernel
theorem dX2_forget_9 : decode cX2_forget 9 = .ok (.iconst 0, 1) := by decide +kernel
theorem dX2_forget_10 : decode cX2_forget 10 = .ok (.putfield 24, 3) := by decide +kernel
theorem dX2_forget_13 : decode cX2_forget 13 = .ok (.return_, 1) := by decide +kernel
theorem dX2_start_0 : decode cX2_start 0 = .ok (.aload_n 1, 1) := by decide +kernel
theorem dX2_start_1 : decode cX2_start 1 = .ok (.iconst 0, 1) := by decide +kernel
theorem dX2_start_2 : decode cX2_start 2 = .ok (.aload_n 0, 1) := by decide +kernel
theorem dX2_start_3 : decode cX2_start 3 = .ok (.getfield 9, 3) := by decide +kernel
theorem dX2_start_6 : decode cX2_start 6 = .ok (.iconst 0, 1) := by decide +kernel
theorem dX2_start_7 : decode cX2_start 7 = .ok (.bipush 6, 2) := by decide +kernel
theorem dX2_start_9 : decode cX2_start 9 = .ok (.invokestatic 28, 3) := by decide +kernel
theorem dX2_start_12 : decode cX2_start 12 = .ok (.aload_n 0, 1) := by decide +kernel
theorem dX2_start_13 : decode cX2_start 13 = .ok (.iconst 0, 1) := by decide +kernel
theorem dX2_start_14 : decode cX2_start 14 = .ok (.putfield 24, 3) := by decide +kernel
theorem dX2_start_17 : decode cX2_start 17 = .ok (.return_, 1) := by decide +kernel
set_option maxRecDepth 20000 in
theorem ggX2_step_X1_tell : GoodIn wsX2_step wsX1_tell := goodIn_r _ [5, 6, 7, 8, 9, 10, 11, 12, 13, 4, 14, 15, 39, 40, 41, 42, 43, 44] (by decide +kernel) (by decide +kernel)
set_option maxRecDepth 20000 in
theorem gX2_step_X1_tell : GoodIn wsX2_step (wsV RX2 34 RX1 yX1_tell wsX1_tell) := goodIn_app (goodIn_of _ (by decide +kernel)) ggX2_step_X1_tell
set_option maxRecDepth 20000 in
theorem ggX2_step_X1_kindOf : GoodIn wsX2_step wsX1_kindOf := goodIn_r _ [19, 6, 11, 12, 13, 4, 14, 15, 39, 40, 41, 42, 43, 44] (by decide +kernel) (by decide +kernel)
set_option maxRecDepth 20000 in
theorem gX2_step_X1_kindOf : GoodIn wsX2_step (wsV RX2 40 RX1 yX1_kindOf wsX1_kindOf) := goodIn_app (goodIn_of _ (by decide +kernel)) ggX2_step_X1_kindOf
set_option maxRecDepth 20000 in
theorem ggX2_step_X2_become : GoodIn wsX2_step wsX2_become := goodIn_r _ [24, 25, 26, 27, 4, 28, 45, 46, 47] (by decide +kernel) (by decide +kernel)
set_option maxRecDepth 20000 in
theorem gX2_step_X2_become : GoodIn wsX2_step (wsV RX2 44 RX2 yX2_become wsX2_become) := goodIn_app (goodIn_of _ (by decide +kernel)) ggX2_step_X2_become
set_option maxRecDepth 20000 in
theorem ggX2_step_X2_valueOf : GoodIn wsX2_step wsX2_valueOf := goodIn_r _ [32, 25, 26, 27, 4, 28, 45, 46, 47] (by decide +kernel) (by decide +kernel)
set_option maxRecDepth 20000 in
theorem gX2_step_X2_valueOf : GoodIn wsX2_step (wsV RX2 48 RX2 yX2_valueOf wsX2_valueOf) := goodIn_app (goodIn_of _ (by decide +kernel)) ggX2_step_X2_valueOf
set_option maxRecDepth 20000 in
theorem ggX2_step_X2_print : GoodIn wsX2_step wsX2_print := goodIn_r _ [36, 37, 38, 45, 46, 47] (by decide +kernel) (by decide +kernel)
set_option maxRecDepth 20000 in
theorem gX2_step_X2_print : GoodIn wsX2_step (wsV RX2 51 RX2 yX2_print wsX2_print) := goodIn_app (goodIn_of _ (by decide +kernel)) ggX2_step_X2_print
theorem dX2_step_0 : decode cX2_step 0 = .ok (.aload_n 1, 1) := by decide +kernel
theorem dX2_step_1 : decode cX2_step 1 = .ok (.iload_n 2, 1) := by decide +kernel
theorem dX2_step_2 : decode cX2_step 2 = .ok (.iconst 1, 1) := by decide +kernel
theorem dX2_step_3 : decode cX2_step 3 = .ok (.invokevirtual 34, 3) := by decide +kernel
theorem dX2_step_6 : decode cX2_step 6 = .ok (.istore_n 3, 1) := by decide +kernel
theorem dX2_step_7 : decode cX2_step 7 = .ok (.aload_n 1, 1) := by decide +kernel
theorem dX2_step_8 : decode cX2_step 8 = .ok (.iload_n 2, 1) := by decide +kernel
theorem dX2_step_9 : decode cX2_step 9 = .ok (.iconst 2, 1) := by decide +kernel
theorem dX2_step_10 : decode cX2_step 10 = .ok (.invokevirtual 34, 3) := by decide +kernel
theorem dX2_step_13 : decode cX2_step 13 = .ok (.istore 4, 2) := by decide +kernel
theorem dX2_step_15 : decode cX2_step 15 = .ok (.aload_n 1, 1) := by decide +kernel
theorem dX2_step_16 : decode cX2_step 16 = .ok (.iload_n 2, 1) := by decide +kernel
theorem dX2_step_17 : decode cX2_step 17 = .ok (.invokevirtual 40, 3) := by decide +kernel
theorem dX2_step_20 : decode cX2_step 20 = .ok (.tableswitch 152 0 6 #[44, 54, 68, 88, 108, 152, 120], 44) := by decide +kernel
theorem dX2_step_64 : decode cX2_step 64 = .ok (.aload_n 0, 1) := by decide +kernel
theorem dX2_step_65 : decode cX2_step 65 = .ok (.iload_n 3, 1) := by decide +kernel
theorem dX2_step_66 : decode cX2_step 66 = .ok (.iload 4, 2) := by decide +kernel
theorem dX2_step_68 : decode cX2_step 68 = .ok (.invokevirtual 44, 3) := by decide +kernel
theorem dX2_step_71 : decode cX2_step 71 = .ok (.goto 101, 3) := by decide +kernel
theorem dX2_step_74 : decode cX2_step 74 = .ok (.aload_n 0, 1) := by decide +kernel
theorem dX2_step_75 : decode cX2_step 75 = .ok (.iload_n 3, 1) := by decide +kernel
theorem dX2_step_76 : decode cX2_step 76 = .ok (.aload_n 0, 1) := by decide +kernel
theorem dX2_step_77 : decode cX2_step 77 = .ok (.iload 4, 2) := by decide +kernel
theorem dX2_step_79 : decode cX2_step 79 = .ok (.invokevirtual 48, 3) := by decide +kernel
theorem dX2_step_82 : decode cX2_step 82 = .ok (.invokevirtual 44, 3) := by decide +kernel
theorem dX2_step_85 : decode cX2_step 85 = .ok (.goto 87, 3) := by decide +kernel
theorem dX2_step_88 : decode cX2_step 88 = .ok (.aload_n 0, 1) := by decide +kernel
theorem dX2_step_89 : decode cX2_step 89 = .ok (.iload_n 3, 1) := by decide +kernel
theorem dX2_step_90 : decode cX2_step 90 = .ok (.aload_n 0, 1) := by decide +kernel
theorem dX2_step_91 : decode cX2_step 91 = .ok (.iload_n 3, 1) := by decide +kernel
theorem dX2_step_92 : decode cX2_step 92 = .ok (.invokevirtual 48, 3) := by decide +kernel
theorem dX2_step_95 : decode cX2_step 95 = .ok (.aload_n 0, 1) := by decide +kernel
theorem dX2_step_96 : decode cX2_step 96 = .ok (.iload 4, 2) := by decide +kernel
theorem dX2_step_98 : decode cX2_step 98 = .ok (.invokevirtual 48, 3) := by decide +kernel
theorem dX2_step_101 : decode cX2_step 101 = .ok (.iadd, 1) := by decide +kernel
theorem dX2_step_102 : decode cX2_step 102 = .ok (.invokevirtual 44, 3) := by decide +kernel
theorem dX2_step_105 : decode cX2_step 105 = .ok (.goto 67, 3) := by decide +kernel
theorem dX2_step_108 : decode cX2_step 108 = .ok (.aload_n 0, 1) := by decide +kernel
theorem dX2_step_109 : decode cX2_step 109 = .ok (.iload_n 3, 1) := by decide +kernel
theorem dX2_step_110 : decode cX2_step 110 = .ok (.aload_n 0, 1) := by decide +kernel
theorem dX2_step_111 : decode cX2_step 111 = .ok (.iload_n 3, 1) := by decide +kernel
theorem dX2_step_112 : decode cX2_step 112 = .ok (.invokevirtual 48, 3) := by decide +kernel
theorem dX2_step_115 : decode cX2_step 115 = .ok (.aload_n 0, 1) := by decide +kernel
theorem dX2_step_116 : decode cX2_step 116 = .ok (.iload 4, 2) := by decide +kernel
theorem dX2_step_118 : decode cX2_step 118 = .ok (.invokevirtual 48, 3) := by decide +kernel
theorem dX2_step_121 : decode cX2_step 121 = .ok (.imul, 1) := by decide +kernel
theorem dX2_step_122 : decode cX2_step 122 = .ok (.invokevirtual 44, 3) := by decide +kernel
theorem dX2_step_125 : decode cX2_step 125 = .ok (.goto 47, 3) := by decide +kernel
theorem dX2_step_128 : decode cX2_step 128 = .ok (.aload_n 0, 1) := by decide +kernel
theorem dX2_step_129 : decode cX2_step 129 = .ok (.aload_n 0, 1) := by decide +kernel
theorem dX2_step_130 : decode cX2_step 130 = .ok (.iload_n 3, 1) := by decide +kernel
theorem dX2_step_131 : decode cX2_step 131 = .ok (.invokevirtual 48, 3) := by decide +kernel
theorem dX2_step_134 : decode cX2_step 134 = .ok (.invokevirtual 51, 3) := by decide +kernel
theorem dX2_step_137 : decode cX2_step 137 = .ok (.goto 35, 3) := by decide +kernel
theorem dX2_step_140 : decode cX2_step 140 = .ok (.aload_n 0, 1) := by decide +kernel
theorem dX2_step_141 : decode cX2_step 141 = .ok (.iload_n 3, 1) := by decide +kernel
theorem dX2_step_142 : decode cX2_step 142 = .ok (.aload_n 0, 1) := by decide +kernel
theorem dX2_step_143 : decode cX2_step 143 = .ok (.iload 4, 2) := by decide +kernel
theorem dX2_step_145 : decode cX2_step 145 = .ok (.invokevirtual 48, 3) := by decide +kernel
theorem dX2_step_148 : decode cX2_step 148 = .ok (.ifCond .le 13, 3) := by decide +kernel
theorem dX2_step_151 : decode cX2_step 151 = .ok (.aload_n 0, 1) := by decide +kernel
theorem dX2_step_152 : decode cX2_step 152 = .ok (.iload_n 3, 1) := by decide +kernel
theorem dX2_step_153 : decode cX2_step 153 = .ok (.invokevirtual 48, 3) := by decide +kernel
theorem dX2_step_156 : decode cX2_step 156 = .ok (.iconst 1, 1) := by decide +kernel
theorem dX2_step_157 : decode cX2_step 157 = .ok (.iadd, 1) := by decide +kernel
theorem dX2_step_158 : decode cX2_step 158 = .ok (.goto 8, 3) := by decide +kernel
theorem dX2_step_161 : decode cX2_step 161 = .ok (.aload_n 0, 1) := by decide +kernel
theorem dX2_step_162 : decode cX2_step 162 = .ok (.iload_n 3, 1) := by decide +kernel
theorem dX2_step_163 : decode cX2_step 163 = .ok (.invokevirtual 48, 3) := by decide +kernel
theorem dX2_step_166 : decode cX2_step 166 = .ok (.invokevirtual 44, 3) := by decide +kernel
theorem dX2_step_169 : decode cX2_step 169 = .ok (.goto 3, 3) := by decide +kernel
theorem dX2_step_172 : decode cX2_step 172 = .ok (.return_, 1) := by decide +kernel
set_option maxRecDepth 20000 in
theorem ggX2_valueOf_X1_isVariable : GoodIn wsX2_valueOf wsX1_isVariable := goodIn_r _ [5] (by decide +kernel) (by decide +kernel)
set_option maxRecDepth 20000 in
theorem gX2_valueOf_X1_isVariable : GoodIn wsX2_valueOf (va_wsS RX2 55 yX1_isVariable wsX1_isVariable) := goodIn_app (goodIn_of _ (by decide +kernel)) ggX2_valueOf_X1_isVariable
theorem dX2_valueOf_0 : decode cX2_valueOf 0 = .ok (.iload_n 1, 1) := by decide +kernel
theorem dX2_valueOf_1 : decode cX2_valueOf 1 = .ok (.invokestatic 55, 3) := by decide +kernel
theorem dX2_valueOf_4 : decode cX2_valueOf 4 = .ok (.ifCond .eq 12, 3) := by decide +kernel
theorem dX2_valueOf_7 : decode cX2_valueOf 7 = .ok (.aload_n 0, 1) := by decide +kernel
theorem dX2_valueOf_8 : decode cX2_valueOf 8 = .ok (.getfield 9, 3) := by decide +kernel
theorem dX2_valueOf_11 : decode cX2_valueOf 11 = .ok (.iload_n 1, 1) := by decide +kernel
theorem dX2_valueOf_12 : decode cX2_valueOf 12 = .ok (.iaload, 1) := by decide +kernel
theorem dX2_valueOf_13 : decode cX2_valueOf 13 = .ok (.goto 4, 3) := by decide +kernel
theorem dX2_valueOf_16 : decode cX2_valueOf 16 = .ok (.iconst 0, 1) := by decide +kernel
theorem dX2_valueOf_17 : decode cX2_valueOf 17 = .ok (.ireturn, 1) := by decide +kernel
theorem dX2_printAt_0 : decode cX2_printAt 0 = .ok (.iload_n 1, 1) := by decide +kernel
theorem dX2_printAt_1 : decode cX2_printAt 1 = .ok (.ifCond .lt 20, 3) := by decide +kernel
theorem dX2_printAt_4 : decode cX2_printAt 4 = .ok (.iload_n 1, 1) := by decide +kernel
theorem dX2_printAt_5 : decode cX2_printAt 5 = .ok (.aload_n 0, 1) := by decide +kernel
theorem dX2_printAt_6 : decode cX2_printAt 6 = .ok (.getfield 24, 3) := by decide +kernel
theorem dX2_printAt_9 : decode cX2_printAt 9 = .ok (.if_icmp .ge 12, 3) := by decide +kernel
theorem dX2_printAt_12 : decode cX2_printAt 12 = .ok (.aload_n 0, 1) := by decide +kernel
theorem dX2_printAt_13 : decode cX2_printAt 13 = .ok (.getfield 15, 3) := by decide +kernel
theorem dX2_printAt_16 : decode cX2_printAt 16 = .ok (.iload_n 1, 1) := by decide +kernel
theorem dX2_printAt_17 : decode cX2_printAt 17 = .ok (.iaload, 1) := by decide +kernel
theorem dX2_printAt_18 : decode cX2_printAt 18 = .ok (.goto 4, 3) := by decide +kernel
theorem dX2_printAt_21 : decode cX2_printAt 21 = .ok (.iconst 0, 1) := by decide +kernel
theorem dX2_printAt_22 : decode cX2_printAt 22 = .ok (.ireturn, 1) := by decide +kernel
theorem dX2_printsAs_0 : decode cX2_printsAs 0 = .ok (.aload_n 0, 1) := by decide +kernel
theorem dX2_printsAs_1 : decode cX2_printsAs 1 = .ok (.getfield 24, 3) := by decide +kernel
theorem dX2_printsAs_4 : decode cX2_printsAs 4 = .ok (.aload_n 1, 1) := by decide +kernel
theorem dX2_printsAs_5 : decode cX2_printsAs 5 = .ok (.getfield 24, 3) := by decide +kernel
theorem dX2_printsAs_8 : decode cX2_printsAs 8 = .ok (.if_icmp .eq 5, 3) := by decide +kernel
theorem dX2_printsAs_11 : decode cX2_printsAs 11 = .ok (.iconst 0, 1) := by decide +kernel
theorem dX2_printsAs_12 : decode cX2_printsAs 12 = .ok (.ireturn, 1) := by decide +kernel
theorem dX2_printsAs_13 : decode cX2_printsAs 13 = .ok (.iconst 0, 1) := by decide +kernel
theorem dX2_printsAs_14 : decode cX2_printsAs 14 = .ok (.istore_n 2, 1) := by decide +kernel
theorem dX2_printsAs_15 : decode cX2_printsAs 15 = .ok (.iload_n 2, 1) := by decide +kernel
theorem dX2_printsAs_16 : decode cX2_printsAs 16 = .ok (.aload_n 0, 1) := by decide +kernel
theorem dX2_printsAs_17 : decode cX2_printsAs 17 = .ok (.getfield 24, 3) := by decide +kernel
theorem dX2_printsAs_20 : decode cX2_printsAs 20 = .ok (.if_icmp .ge 26, 3) := by decide +kernel
theorem dX2_printsAs_23 : decode cX2_printsAs 23 = .ok (.aload_n 0, 1) := by decide +kernel
theorem dX2_printsAs_24 : decode cX2_printsAs 24 = .ok (.getfield 15, 3) := by decide +kernel
theorem dX2_printsAs_27 : decode cX2_printsAs 27 = .ok (.iload_n 2, 1) := by decide +kernel
theorem dX2_printsAs_28 : decode cX2_printsAs 28 = .ok (.iaload, 1) := by decide +kernel
theorem dX2_printsAs_29 : decode cX2_printsAs 29 = .ok (.aload_n 1, 1) := by decide +kernel
theorem dX2_printsAs_30 : decode cX2_printsAs 30 = .ok (.getfield 15, 3) := by decide +kernel
theorem dX2_printsAs_33 : decode cX2_printsAs 33 = .ok (.iload_n 2, 1) := by decide +kernel
theorem dX2_printsAs_34 : decode cX2_printsAs 34 = .ok (.iaload, 1) := by decide +kernel
theorem dX2_printsAs_35 : decode cX2_printsAs 35 = .ok (.if_icmp .eq 5, 3) := by decide +kernel
theorem dX2_printsAs_38 : decode cX2_printsAs 38 = .ok (.iconst 0, 1) := by decide +kernel
theorem dX2_printsAs_39 : decode cX2_printsAs 39 = .ok (.ireturn, 1) := by decide +kernel
theorem dX2_printsAs_40 : decode cX2_printsAs 40 = .ok (.iinc 2 1, 3) := by decide +kernel
theorem dX2_printsAs_43 : decode cX2_printsAs 43 = .ok (.goto (-28), 3) := by decide +kernel
theorem dX2_printsAs_46 : decode cX2_printsAs 46 = .ok (.iconst 1, 1) := by decide +kernel
theorem dX2_printsAs_47 : decode cX2_printsAs 47 = .ok (.ireturn, 1) := by decide +kernel
set_option maxRecDepth 20000 in
theorem ggX2_become_X1_isVariable : GoodIn wsX2_become wsX1_isVariable := goodIn_r _ [5] (by decide +kernel) (by decide +kernel)
set_option maxRecDepth 20000 in
theorem gX2_become_X1_isVariable : GoodIn wsX2_become (va_wsS RX2 55 yX1_isVariable wsX1_isVariable) := goodIn_app (goodIn_of _ (by decide +kernel)) ggX2_become_X1_isVariable
theorem dX2_become_0 : decode cX2_become 0 = .ok (.iload_n 1, 1) := by decide +kernel
theorem dX2_become_1 : decode cX2_become 1 = .ok (.invokestatic 55, 3) := by decide +kernel
theorem dX2_become_4 : decode cX2_become 4 = .ok (.ifCond .eq 10, 3) := by decide +kernel
theorem dX2_become_7 : decode cX2_become 7 = .ok (.aload_n 0, 1) := by decide +kernel
theorem dX2_become_8 : decode cX2_become 8 = .ok (.getfield 9, 3) := by decide +kernel
theorem dX2_become_11 : decode cX2_become 11 = .ok (.iload_n 1, 1) := by decide +kernel
theorem dX2_become_12 : decode cX2_become 12 = .ok (.iload_n 2, 1) := by decide +kernel
theorem dX2_become_13 : decode cX2_become 13 = .ok (.iastore, 1) := by decide +kernel
theorem dX2_become_14 : decode cX2_become 14 = .ok (.return_, 1) := by decide +kernel
theorem dX2_print_0 : decode cX2_print 0 = .ok (.aload_n 0, 1) := by decide +kernel
theorem dX2_print_1 : decode cX2_print 1 = .ok (.getfield 24, 3) := by decide +kernel
theorem dX2_print_4 : decode cX2_print 4 = .ok (.bipush 16, 2) := by decide +kernel
theorem dX2_print_6 : decode cX2_print 6 = .ok (.if_icmp .ge 20, 3) := by decide +kernel
theorem dX2_print_9 : decode cX2_print 9 = .ok (.aload_n 0, 1) := by decide +kernel
theorem dX2_print_10 : decode cX2_print 10 = .ok (.getfield 15, 3) := by decide +kernel
theorem dX2_print_13 : decode cX2_print 13 = .ok (.aload_n 0, 1) := by decide +kernel
theorem dX2_print_14 : decode cX2_print 14 = .ok (.dup, 1) := by decide +kernel
theorem dX2_print_15 : decode cX2_print 15 = .ok (.getfield 24, 3) := by decide +kernel
theorem dX2_print_18 : decode cX2_print 18 = .ok (.dup_x1, 1) := by decide +kernel
theorem dX2_print_19 : decode cX2_print 19 = .ok (.iconst 1, 1) := by decide +kernel
theorem dX2_print_20 : decode cX2_print 20 = .ok (.iadd, 1) := by decide +kernel
theorem dX2_print_21 : decode cX2_print 21 = .ok (.putfield 24, 3) := by decide +kernel
theorem dX2_print_24 : decode cX2_print 24 = .ok (.iload_n 1, 1) := by decide +kernel
theorem dX2_print_25 : decode cX2_print 25 = .ok (.iastore, 1) := by decide +kernel
theorem dX2_print_26 : decode cX2_print 26 = .ok (.return_, 1) := by decide +kernel
theorem dX3_init_0 : decode cX3_init 0 = .ok (.aload_n 0, 1) := by decide +kernel
theorem dX3_init_1 : decode cX3_init 1 = .ok (.invokespecial 3, 3) := by decide +kernel
theorem dX3_init_4 : decode cX3_init 4 = .ok (.aload_n 0, 1) := by decide +kernel
theorem dX3_init_5 : decode cX3_init 5 = .ok (.bipush 16, 2) := by decide +kernel
theorem dX3_init_7 : decode cX3_init 7 = .ok (.newarray .int, 2) := by decide +kernel
theorem dX3_init_9 : decode cX3_init 9 = .ok (.putfield 9, 3) := by decide +kernel
theorem dX3_init_12 : decode cX3_init 12 = .ok (.aload_n 0, 1) := by decide +kernel
theorem dX3_init_13 : decode cX3_init 13 = .ok (.bipush 16, 2) := by decide +kernel
theorem dX3_init_15 : decode cX3_init 15 = .ok (.newarray .int, 2) := by decide +kernel
theorem dX3_init_17 : decode cX3_init 17 = .ok (.putfield 15, 3) := by decide +kernel
theorem dX3_init_20 : decode cX3_init 20 = .ok (.aload_n 0, 1) := by decide +kernel
theorem dX3_init_21 : decode cX3_init 21 = .ok (.aload_n 1, 1) := by decide +kernel
theorem dX3_init_22 : decode cX3_init 22 = .ok (.putfield 18, 3) := by decide +kernel
theorem dX3_init_25 : decode cX3_init 25 = .ok (.aload_n 0, 1) := by decide +kernel
theorem dX3_init_26 : decode cX3_init 26 = .ok (.aload_n 2, 1) := by decide +kernel
theorem dX3_init_27 : decode cX3_init 27 = .ok (.putfield 22, 3) := by decide +kernel
theorem dX3_init_30 : decode cX3_init 30 = .ok (.aload_n 0, 1) := by decide +kernel
theorem dX3_init_31 : decode cX3_init 31 = .ok (.aload_n 3, 1) := by decide +kernel
theorem dX3_init_32 : decode cX3_init 32 = .ok (.putfield 26, 3) := by decide +kernel
theorem dX3_init_35 : decode cX3_init 35 = .ok (.return_, 1) := by decide +kernel
set_option maxRecDepth 20000 in
theorem ggX3_study_X3_findRanks : GoodIn wsX3_study wsX3_findRanks := goodIn_r _ [5, 6, 7, 8, 9, 10, 11, 12, 13, 14, 15, 16, 17, 18, 19, 20, 21, 22, 23, 24, 25, 26, 27, 28, 29, 30, 31, 32, 33, 34, 35, 36, 37, 38, 39, 40, 41, 42, 43, 44, 45, 46, 47, 48, 49, 50, 123, 124, 125, 126, 127, 128, 129, 130, 131, 132, 133, 134, 135, 136, 137, 138, 139, 140, 141, 142, 143, 144, 145, 146] (by decide +kernel) (by decide +kernel)
set_option maxRecDepth 20000 in
theorem gX3_study_X3_findRanks : GoodIn wsX3_study (wsV RX3 30 RX3 yX3_findRanks wsX3_findRanks) := goodIn_app (goodIn_of _ (by decide +kernel)) ggX3_study_X3_findRanks
set_option maxRecDepth 20000 in
theorem ggX3_study_X3_findClashes : GoodIn wsX3_study wsX3_findClashes := goodIn_r _ [54, 6, 9, 8, 55, 56, 57, 58, 48, 59, 60, 61, 123, 124, 125, 126, 127, 128, 129, 130, 131, 132, 133, 134, 141, 142, 143, 144, 145, 146] (by decide +kernel) (by decide +kernel)
set_option maxRecDepth 20000 in
theorem gX3_study_X3_findClashes : GoodIn wsX3_study (wsV RX3 33 RX3 yX3_findClashes wsX3_findClashes) := goodIn_app (goodIn_of _ (by decide +kernel)) ggX3_study_X3_findClashes
set_option maxRecDepth 20000 in
theorem ggX3_study_X3_chooseKept : GoodIn wsX3_study wsX3_chooseKept := goodIn_r _ [65, 6, 8, 66, 55, 67, 68, 4, 69, 70, 71, 72, 73, 123, 124, 125, 126, 127, 128, 129, 130, 131, 132, 133, 134] (by decide +kernel) (by decide +kernel)
set_option maxRecDepth 20000 in
theorem gX3_study_X3_chooseKept : GoodIn wsX3_study (wsV RX3 36 RX3 yX3_chooseKept wsX3_chooseKept) := goodIn_app (goodIn_of _ (by decide +kernel)) ggX3_study_X3_chooseKept
set_option maxRecDepth 20000 in
theorem ggX3_study_X3_countChanges : GoodIn wsX3_study wsX3_countChanges := goodIn_r _ [77, 9, 66, 6, 7, 78, 79, 80, 81, 82, 83, 84, 85, 10, 11, 12, 13, 14, 15, 16, 17, 18, 19, 20, 32, 33, 34, 24, 35, 36, 27, 28, 29, 30, 31, 123, 124, 125, 126, 127, 128, 129, 130, 131, 132, 141, 142, 143, 144, 145, 146, 133, 134, 135, 136, 137, 138, 139, 140] (by decide +kernel) (by decide +kernel)
set_option maxRecDepth 20000 in
theorem gX3_study_X3_countChanges : GoodIn wsX3_study (wsV RX3 39 RX3 yX3_countChanges wsX3_countChanges) := goodIn_app (goodIn_of _ (by decide +kernel)) ggX3_study_X3_countChanges
set_option maxRecDepth 20000 in
theorem ggX3_study_X3_findDrop : GoodIn wsX3_study wsX3_findDrop := goodIn_r _ [89, 6, 8, 10, 11, 12, 13, 14, 15, 16, 17, 18, 19, 20, 90, 91, 92, 4, 93, 94, 95, 96, 123, 124, 125, 126, 127, 128, 129, 130, 131, 132, 133, 134] (by decide +kernel) (by decide +kernel)
set_option maxRecDepth 20000 in
theorem gX3_study_X3_findDrop : GoodIn wsX3_study (wsV RX3 42 RX3 yX3_findDrop wsX3_findDrop) := goodIn_app (goodIn_of _ (by decide +kernel)) ggX3_study_X3_findDrop
set_option maxRecDepth 20000 in
theorem ggX3_study_X3_findSwap : GoodIn wsX3_study wsX3_findSwap := goodIn_r _ [100, 6, 7, 10, 11, 12, 13, 14, 15, 16, 17, 18, 19, 20, 32, 33, 34, 24, 35, 36, 27, 28, 29, 30, 31, 90, 91, 92, 4, 93, 94, 95, 96, 123, 124, 125, 126, 127, 128, 129, 130, 131, 132, 133, 134, 135, 136, 137, 138, 139, 140] (by decide +kernel) (by decide +kernel)
set_option maxRecDepth 20000 in
theorem gX3_study_X3_findSwap : GoodIn wsX3_study (wsV RX3 46 RX3 yX3_findSwap wsX3_findSwap) := goodIn_app (goodIn_of _ (by decide +kernel)) ggX3_study_X3_findSwap
set_option maxRecDepth 20000 in
theorem ggX3_study_X3_findAdd : GoodIn wsX3_study wsX3_findAdd := goodIn_r _ [104, 9, 6, 105, 106, 107, 48, 108, 60, 109, 37, 38, 39, 13, 40, 41, 42, 43, 44, 20, 15, 110, 111, 112, 4, 113, 8, 114, 115, 116, 117, 66, 118, 17, 18, 19, 56, 57, 58, 59, 61, 90, 91, 92, 93, 94, 95, 96, 123, 124, 125, 126, 127, 128, 129, 130, 131, 132, 141, 142, 143, 144, 145, 146, 133, 134] (by decide +kernel) (by decide +kernel)
set_option maxRecDepth 20000 in
theorem gX3_study_X3_findAdd : GoodIn wsX3_study (wsV RX3 49 RX3 yX3_findAdd wsX3_findAdd) := goodIn_app (goodIn_of _ (by decide +kernel)) ggX3_study_X3_findAdd
set_option maxRecDepth 20000 in
theorem ggX3_study_X3_findMove : GoodIn wsX3_study wsX3_findMove := goodIn_r _ [122, 6, 8, 114, 115, 116, 4, 117, 66, 118, 17, 18, 13, 19, 20, 10, 11, 12, 14, 15, 16, 110, 111, 112, 113, 9, 56, 57, 58, 48, 59, 60, 61, 90, 91, 92, 93, 94, 95, 96, 123, 124, 125, 126, 127, 128, 129, 130, 131, 132, 133, 134, 141, 142, 143, 144, 145, 146] (by decide +kernel) (by decide +kernel)
set_option maxRecDepth 20000 in
theorem gX3_study_X3_findMove : GoodIn wsX3_study (wsV RX3 52 RX3 yX3_findMove wsX3_findMove) := goodIn_app (goodIn_of _ (by decide +kernel)) ggX3_study_X3_findMove
set_option maxRecDepth 20000 in
theorem ggX3_study_X3_hintAt : GoodIn wsX3_study wsX3_hintAt := goodIn_r _ [93, 94, 95, 96, 123, 124, 125, 126, 127, 128, 129, 130, 131, 132] (by decide +kernel) (by decide +kernel)
set_option maxRecDepth 20000 in
theorem gX3_study_X3_hintAt : GoodIn wsX3_study (wsV RX3 55 RX3 yX3_hintAt wsX3_hintAt) := goodIn_app (goodIn_of _ (by decide +kernel)) ggX3_study_X3_hintAt
theorem dX3_study_0 : decode cX3_study 0 = .ok (.aload_n 0, 1) := by decide +kernel
theorem dX3_study_1 : decode cX3_study 1 = .ok (.invokevirtual 30, 3) := by decide +kernel
theorem dX3_study_4 : decode cX3_study 4 = .ok (.aload_n 0, 1) := by decide +kernel
theorem dX3_study_5 : decode cX3_study 5 = .ok (.invokevirtual 33, 3) := by decide +kernel
theorem dX3_study_8 : decode cX3_study 8 = .ok (.aload_n 0, 1) := by decide +kernel
theorem dX3_study_9 : decode cX3_study 9 = .ok (.invokevirtual 36, 3) := by decide +kernel
theorem dX3_study_12 : decode cX3_study 12 = .ok (.aload_n 0, 1) := by decide +kernel
theorem dX3_study_13 : decode cX3_study 13 = .ok (.invokevirtual 39, 3) := by decide +kernel
theorem dX3_study_16 : decode cX3_study 16 = .ok (.aload_n 0, 1) := by decide +kernel
theorem dX3_study_17 : decode cX3_study 17 = .ok (.invokevirtual 42, 3) := by decide +kernel
theorem dX3_study_20 : decode cX3_study 20 = .ok (.ifCond .ne 31, 3) := by decide +kernel
theorem dX3_study_23 : decode cX3_study 23 = .ok (.aload_n 0, 1) := by decide +kernel
theorem dX3_study_24 : decode cX3_study 24 = .ok (.invokevirtual 46, 3) := by decide +kernel
theorem dX3_study_27 : decode cX3_study 27 = .ok (.ifCond .ne 24, 3) := by decide +kernel
theorem dX3_study_30 : decode cX3_study 30 = .ok (.aload_n 0, 1) := by decide +kernel
theorem dX3_study_31 : decode cX3_study 31 = .ok (.invokevirtual 49, 3) := by decide +kernel
theorem dX3_study_34 : decode cX3_study 34 = .ok (.ifCond .ne 17, 3) := by decide +kernel
theorem dX3_study_37 : decode cX3_study 37 = .ok (.aload_n 0, 1) := by decide +kernel
theorem dX3_study_38 : decode cX3_study 38 = .ok (.invokevirtual 52, 3) := by decide +kernel
theorem dX3_study_41 : decode cX3_study 41 = .ok (.ifCond .ne 10, 3) := by decide +kernel
theorem dX3_study_44 : decode cX3_study 44 = .ok (.aload_n 0, 1) := by decide +kernel
theorem dX3_study_45 : decode cX3_study 45 = .ok (.iconst (-1), 1) := by decide +kernel
theorem dX3_study_46 : decode cX3_study 46 = .ok (.iconst (-1), 1) := by decide +kernel
theorem dX3_study_47 : decode cX3_study 47 = .ok (.iconst (-1), 1) := by decide +kernel
theorem dX3_study_48 : decode cX3_study 48 = .ok (.invokevirtual 55, 3) := by decide +kernel
theorem dX3_study_51 : decode cX3_study 51 = .ok (.return_, 1) := by decide +kernel
set_option maxRecDepth 20000 in
theorem ggX3_isKept_X0_hasPlace : GoodIn wsX3_isKept wsX0_hasPlace := goodIn_r _ [7, 8, 19, 20] (by decide +kernel) (by decide +kernel)
set_option maxRecDepth 20000 in
theorem gX3_isKept_X0_hasPlace : GoodIn wsX3_isKept (wsV RX3 59 RX0 yX0_hasPlace wsX0_hasPlace) := goodIn_app (goodIn_of _ (by decide +kernel)) ggX3_isKept_X0_hasPlace
theorem dX3_isKept_0 : decode cX3_isKept 0 = .ok (.aload_n 0, 1) := by decide +kernel
theorem dX3_isKept_1 : decode cX3_isKept 1 = .ok (.getfield 26, 3) := by decide +kernel
theorem dX3_isKept_4 : decode cX3_isKept 4 = .ok (.iload_n 1, 1) := by decide +kernel
theorem dX3_isKept_5 : decode cX3_isKept 5 = .ok (.invokevirtual 59, 3) := by decide +kernel
theorem dX3_isKept_8 : decode cX3_isKept 8 = .ok (.ifCond .eq 18, 3) := by decide +kernel
theorem dX3_isKept_11 : decode cX3_isKept 11 = .ok (.aload_n 0, 1) := by decide +kernel
theorem dX3_isKept_12 : decode cX3_isKept 12 = .ok (.getfield 65, 3) := by decide +kernel
theorem dX3_isKept_15 : decode cX3_isKept 15 = .ok (.iload_n 1, 1) := by decide +kernel
theorem dX3_isKept_16 : decode cX3_isKept 16 = .ok (.ishr, 1) := by decide +kernel
theorem dX3_isKept_17 : decode cX3_isKept 17 = .ok (.iconst 1, 1) := by decide +kernel
theorem dX3_isKept_18 : decode cX3_isKept 18 = .ok (.iand, 1) := by decide +kernel
theorem dX3_isKept_19 : decode cX3_isKept 19 = .ok (.ifCond .eq 7, 3) := by decide +kernel
theorem dX3_isKept_22 : decode cX3_isKept 22 = .ok (.iconst 1, 1) := by decide +kernel
theorem dX3_isKept_23 : decode cX3_isKept 23 = .ok (.goto 4, 3) := by decide +kernel
theorem dX3_isKept_26 : decode cX3_isKept 26 = .ok (.iconst 0, 1) := by decide +kernel
theorem dX3_isKept_27 : decode cX3_isKept 27 = .ok (.ireturn, 1) := by decide +kernel
set_option maxRecDepth 20000 in
theorem ggX3_findRanks_X0_lineAt : GoodIn wsX3_findRanks wsX0_lineAt := goodIn_r _ [9, 10, 11, 12, 13, 8, 14, 15, 56, 57] (by decide +kernel) (by decide +kernel)
set_option maxRecDepth 20000 in
theorem gX3_findRanks_X0_lineAt : GoodIn wsX3_findRanks (wsV RX3 72 RX0 yX0_lineAt wsX0_lineAt) := goodIn_app (goodIn_of _ (by decide +kernel)) ggX3_findRanks_X0_lineAt
set_option maxRecDepth 20000 in
theorem ggX3_findRanks_X1_mateOf : GoodIn wsX3_findRanks wsX1_mateOf := goodIn_r _ [20, 21, 22, 23, 24, 19, 25, 26, 58, 59, 60, 61, 62, 63] (by decide +kernel) (by decide +kernel)
set_option maxRecDepth 20000 in
theorem gX3_findRanks_X1_mateOf : GoodIn wsX3_findRanks (wsV RX3 76 RX1 yX1_mateOf wsX1_mateOf) := goodIn_app (goodIn_of _ (by decide +kernel)) ggX3_findRanks_X1_mateOf
set_option maxRecDepth 20000 in
theorem ggX3_findRanks_X1_roleOf : GoodIn wsX3_findRanks wsX1_roleOf := goodIn_r _ [30, 31, 22, 23, 24, 19, 25, 26, 58, 59, 60, 61, 62, 63] (by decide +kernel) (by decide +kernel)
set_option maxRecDepth 20000 in
theorem gX3_findRanks_X1_roleOf : GoodIn wsX3_findRanks (wsV RX3 81 RX1 yX1_roleOf wsX1_roleOf) := goodIn_app (goodIn_of _ (by decide +kernel)) ggX3_findRanks_X1_roleOf
set_option maxRecDepth 20000 in
theorem ggX3_findRanks_X0_holds : GoodIn wsX3_findRanks wsX0_holds := goodIn_r _ [35, 36, 37, 38, 8, 39, 15, 10, 56, 57] (by decide +kernel) (by decide +kernel)
set_option maxRecDepth 20000 in
theorem gX3_findRanks_X0_holds : GoodIn wsX3_findRanks (wsV RX3 84 RX0 yX0_holds wsX0_holds) := goodIn_app (goodIn_of _ (by decide +kernel)) ggX3_findRanks_X0_holds
set_option maxRecDepth 20000 in
theorem ggX3_findRanks_X4_rankOf : GoodIn wsX3_findRanks wsX4_rankOf := goodIn_r _ [44, 45, 64, 65, 66, 67, 68, 69] (by decide +kernel) (by decide +kernel)
set_option maxRecDepth 20000 in
theorem gX3_findRanks_X4_rankOf : GoodIn wsX3_findRanks (wsV RX3 87 RX4 yX4_rankOf wsX4_rankOf) := goodIn_app (goodIn_of _ (by decide +kernel)) ggX3_findRanks_X4_rankOf
theorem dX3_findRanks_0 : decode cX3_findRanks 0 = .ok (.iconst 0, 1) := by decide +kernel
theorem dX3_findRanks_1 : decode cX3_findRanks 1 = .ok (.istore_n 1, 1) := by decide +kernel
theorem dX3_findRanks_2 : decode cX3_findRanks 2 = .ok (.iload_n 1, 1) := by decide +kernel
theorem dX3_findRanks_3 : decode cX3_findRanks 3 = .ok (.aload_n 0, 1) := by decide +kernel
theorem dX3_findRanks_4 : decode cX3_findRanks 4 = .ok (.getfield 26, 3) := by decide +kernel
theorem dX3_findRanks_7 : decode cX3_findRanks 7 = .ok (.getfield 69, 3) := by decide +kernel
theorem dX3_findRanks_10 : decode cX3_findRanks 10 = .ok (.if_icmp .ge 80, 3) := by decide +kernel
theorem dX3_findRanks_13 : decode cX3_findRanks 13 = .ok (.aload_n 0, 1) := by decide +kernel
theorem dX3_findRanks_14 : decode cX3_findRanks 14 = .ok (.getfield 26, 3) := by decide +kernel
theorem dX3_findRanks_17 : decode cX3_findRanks 17 = .ok (.iload_n 1, 1) := by decide +kernel
theorem dX3_findRanks_18 : decode cX3_findRanks 18 = .ok (.invokevirtual 72, 3) := by decide +kernel
theorem dX3_findRanks_21 : decode cX3_findRanks 21 = .ok (.istore_n 2, 1) := by decide +kernel
theorem dX3_findRanks_22 : decode cX3_findRanks 22 = .ok (.aload_n 0, 1) := by decide +kernel
theorem dX3_findRanks_23 : decode cX3_findRanks 23 = .ok (.getfield 18, 3) := by decide +kernel
theorem dX3_findRanks_26 : decode cX3_findRanks 26 = .ok (.iload_n 2, 1) := by decide +kernel
theorem dX3_findRanks_27 : decode cX3_findRanks 27 = .ok (.invokevirtual 76, 3) := by decide +kernel
theorem dX3_findRanks_30 : decode cX3_findRanks 30 = .ok (.istore_n 3, 1) := by decide +kernel
theorem dX3_findRanks_31 : decode cX3_findRanks 31 = .ok (.aload_n 0, 1) := by decide +kernel
theorem dX3_findRanks_32 : decode cX3_findRanks 32 = .ok (.getfield 18, 3) := by decide +kernel
theorem dX3_findRanks_35 : decode cX3_findRanks 35 = .ok (.iload_n 2, 1) := by decide +kernel
theorem dX3_findRanks_36 : decode cX3_findRanks 36 = .ok (.invokevirtual 81, 3) := by decide +kernel
theorem dX3_findRanks_39 : decode cX3_findRanks 39 = .ok (.iconst 2, 1) := by decide +kernel
theorem dX3_findRanks_40 : decode cX3_findRanks 40 = .ok (.if_icmp .ne 18, 3) := by decide +kernel
theorem dX3_findRanks_43 : decode cX3_findRanks 43 = .ok (.aload_n 0, 1) := by decide +kernel
theorem dX3_findRanks_44 : decode cX3_findRanks 44 = .ok (.getfield 26, 3) := by decide +kernel
theorem dX3_findRanks_47 : decode cX3_findRanks 47 = .ok (.iload_n 3, 1) := by decide +kernel
theorem dX3_findRanks_48 : decode cX3_findRanks 48 = .ok (.invokevirtual 84, 3) := by decide +kernel
theorem dX3_findRanks_51 : decode cX3_findRanks 51 = .ok (.ifCond .ne 7, 3) := by decide +kernel
theorem dX3_findRanks_54 : decode cX3_findRanks 54 = .ok (.iconst 1, 1) := by decide +kernel
theorem dX3_findRanks_55 : decode cX3_findRanks 55 = .ok (.goto 4, 3) := by decide +kernel
theorem dX3_findRanks_58 : decode cX3_findRanks 58 = .ok (.iconst 0, 1) := by decide +kernel
theorem dX3_findRanks_59 : decode cX3_findRanks 59 = .ok (.istore 4, 2) := by decide +kernel
theorem dX3_findRanks_61 : decode cX3_findRanks 61 = .ok (.aload_n 0, 1) := by decide +kernel
theorem dX3_findRanks_62 : decode cX3_findRanks 62 = .ok (.getfield 9, 3) := by decide +kernel
theorem dX3_findRanks_65 : decode cX3_findRanks 65 = .ok (.iload_n 1, 1) := by decide +kernel
theorem dX3_findRanks_66 : decode cX3_findRanks 66 = .ok (.aload_n 0, 1) := by decide +kernel
theorem dX3_findRanks_67 : decode cX3_findRanks 67 = .ok (.getfield 22, 3) := by decide +kernel
theorem dX3_findRanks_70 : decode cX3_findRanks 70 = .ok (.iload 4, 2) := by decide +kernel
theorem dX3_findRanks_72 : decode cX3_findRanks 72 = .ok (.ifCond .eq 7, 3) := by decide +kernel
theorem dX3_findRanks_75 : decode cX3_findRanks 75 = .ok (.iload_n 3, 1) := by decide +kernel
theorem dX3_findRanks_76 : decode cX3_findRanks 76 = .ok (.goto 4, 3) := by decide +kernel
theorem dX3_findRanks_79 : decode cX3_findRanks 79 = .ok (.iload_n 2, 1) := by decide +kernel
theorem dX3_findRanks_80 : decode cX3_findRanks 80 = .ok (.invokevirtual 87, 3) := by decide +kernel
theorem dX3_findRanks_83 : decode cX3_findRanks 83 = .ok (.iastore, 1) := by decide +kernel
theorem dX3_findRanks_84 : decode cX3_findRanks 84 = .ok (.iinc 1 1, 3) := by decide +kernel
theorem dX3_findRanks_87 : decode cX3_findRanks 87 = .ok (.goto (-85), 3) := by decide +kernel
theorem dX3_findRanks_90 : decode cX3_findRanks 90 = .ok (.return_, 1) := by decide +kernel
set_option maxRecDepth 20000 in
theorem ggX3_findClashes_X4_isAhead : GoodIn wsX3_findClashes wsX4_isAhead := goodIn_r _ [9, 10, 11, 24, 25, 26, 27, 28, 29] (by decide +kernel) (by decide +kernel)
set_option maxRecDepth 20000 in
theorem gX3_findClashes_X4_isAhead : GoodIn wsX3_findClashes (wsV RX3 92 RX4 yX4_isAhead wsX4_isAhead) := goodIn_app (goodIn_of _ (by decide +kernel)) ggX3_findClashes_X4_isAhead
theorem dX3_findClashes_0 : decode cX3_findClashes 0 = .ok (.iconst 0, 1) := by decide +kernel
theorem dX3_findClashes_1 : decode cX3_findClashes 1 = .ok (.istore_n 1, 1) := by decide +kernel
theorem dX3_findClashes_2 : decode cX3_findClashes 2 = .ok (.iload_n 1, 1) := by decide +kernel
theorem dX3_findClashes_3 : decode cX3_findClashes 3 = .ok (.aload_n 0, 1) := by decide +kernel
theorem dX3_findClashes_4 : decode cX3_findClashes 4 = .ok (.getfield 26, 3) := by decide +kernel
theorem dX3_findClashes_7 : decode cX3_findClashes 7 = .ok (.getfield 69, 3) := by decide +kernel
theorem dX3_findClashes_10 : decode cX3_findClashes 10 = .ok (.if_icmp .ge 67, 3) := by decide +kernel
theorem dX3_findClashes_13 : decode cX3_findClashes 13 = .ok (.iconst 0, 1) := by decide +kernel
theorem dX3_findClashes_14 : decode cX3_findClashes 14 = .ok (.istore_n 2, 1) := by decide +kernel
theorem dX3_findClashes_15 : decode cX3_findClashes 15 = .ok (.iload_n 1, 1) := by decide +kernel
theorem dX3_findClashes_16 : decode cX3_findClashes 16 = .ok (.iconst 1, 1) := by decide +kernel
theorem dX3_findClashes_17 : decode cX3_findClashes 17 = .ok (.iadd, 1) := by decide +kernel
theorem dX3_findClashes_18 : decode cX3_findClashes 18 = .ok (.istore_n 3, 1) := by decide +kernel
theorem dX3_findClashes_19 : decode cX3_findClashes 19 = .ok (.iload_n 3, 1) := by decide +kernel
theorem dX3_findClashes_20 : decode cX3_findClashes 20 = .ok (.aload_n 0, 1) := by decide +kernel
theorem dX3_findClashes_21 : decode cX3_findClashes 21 = .ok (.getfield 26, 3) := by decide +kernel
theorem dX3_findClashes_24 : decode cX3_findClashes 24 = .ok (.getfield 69, 3) := by decide +kernel
theorem dX3_findClashes_27 : decode cX3_findClashes 27 = .ok (.if_icmp .ge 37, 3) := by decide +kernel
theorem dX3_findClashes_30 : decode cX3_findClashes 30 = .ok (.aload_n 0, 1) := by decide +kernel
theorem dX3_findClashes_31 : decode cX3_findClashes 31 = .ok (.getfield 22, 3) := by decide +kernel
theorem dX3_findClashes_34 : decode cX3_findClashes 34 = .ok (.aload_n 0, 1) := by decide +kernel
theorem dX3_findClashes_35 : decode cX3_findClashes 35 = .ok (.getfield 9, 3) := by decide +kernel
theorem dX3_findClashes_38 : decode cX3_findClashes 38 = .ok (.iload_n 3, 1) := by decide +kernel
theorem dX3_findClashes_39 : decode cX3_findClashes 39 = .ok (.iaload, 1) := by decide +kernel
theorem dX3_findClashes_40 : decode cX3_findClashes 40 = .ok (.aload_n 0, 1) := by decide +kernel
theorem dX3_findClashes_41 : decode cX3_findClashes 41 = .ok (.getfield 9, 3) := by decide +kernel
theorem dX3_findClashes_44 : decode cX3_findClashes 44 = .ok (.iload_n 1, 1) := by decide +kernel
theorem dX3_findClashes_45 : decode cX3_findClashes 45 = .ok (.iaload, 1) := by decide +kernel
theorem dX3_findClashes_46 : decode cX3_findClashes 46 = .ok (.invokevirtual 92, 3) := by decide +kernel
theorem dX3_findClashes_49 : decode cX3_findClashes 49 = .ok (.ifCond .eq 9, 3) := by decide +kernel
theorem dX3_findClashes_52 : decode cX3_findClashes 52 = .ok (.iload_n 2, 1) := by decide +kernel
theorem dX3_findClashes_53 : decode cX3_findClashes 53 = .ok (.iconst 1, 1) := by decide +kernel
theorem dX3_findClashes_54 : decode cX3_findClashes 54 = .ok (.iload_n 3, 1) := by decide +kernel
theorem dX3_findClashes_55 : decode cX3_findClashes 55 = .ok (.ishl, 1) := by decide +kernel
theorem dX3_findClashes_56 : decode cX3_findClashes 56 = .ok (.ior, 1) := by decide +kernel
theorem dX3_findClashes_57 : decode cX3_findClashes 57 = .ok (.istore_n 2, 1) := by decide +kernel
theorem dX3_findClashes_58 : decode cX3_findClashes 58 = .ok (.iinc 3 1, 3) := by decide +kernel
theorem dX3_findClashes_61 : decode cX3_findClashes 61 = .ok (.goto (-42), 3) := by decide +kernel
theorem dX3_findClashes_64 : decode cX3_findClashes 64 = .ok (.aload_n 0, 1) := by decide +kernel
theorem dX3_findClashes_65 : decode cX3_findClashes 65 = .ok (.getfield 15, 3) := by decide +kernel
theorem dX3_findClashes_68 : decode cX3_findClashes 68 = .ok (.iload_n 1, 1) := by decide +kernel
theorem dX3_findClashes_69 : decode cX3_findClashes 69 = .ok (.iload_n 2, 1) := by decide +kernel
theorem dX3_findClashes_70 : decode cX3_findClashes 70 = .ok (.iastore, 1) := by decide +kernel
theorem dX3_findClashes_71 : decode cX3_findClashes 71 = .ok (.iinc 1 1, 3) := by decide +kernel
theorem dX3_findClashes_74 : decode cX3_findClashes 74 = .ok (.goto (-72), 3) := by decide +kernel
theorem dX3_findClashes_77 : decode cX3_findClashes 77 = .ok (.return_, 1) := by decide +kernel
set_option maxRecDepth 20000 in
theorem ggX3_chooseKept_X3_mostKept : GoodIn wsX3_chooseKept wsX3_mostKept := goodIn_r _ [8, 9, 10, 11, 12, 5, 6, 7] (by decide +kernel) (by decide +kernel)
set_option maxRecDepth 20000 in
theorem gX3_chooseKept_X3_mostKept : GoodIn wsX3_chooseKept (va_wsS RX3 96 yX3_mostKept wsX3_mostKept) := goodIn_app (goodIn_of _ (by decide +kernel)) ggX3_chooseKept_X3_mostKept
theorem dX3_chooseKept_0 : decode cX3_chooseKept 0 = .ok (.iconst 0, 1) := by decide +kernel
theorem dX3_chooseKept_1 : decode cX3_chooseKept 1 = .ok (.istore_n 1, 1) := by decide +kernel
theorem dX3_chooseKept_2 : decode cX3_chooseKept 2 = .ok (.iconst 0, 1) := by decide +kernel
theorem dX3_chooseKept_3 : decode cX3_chooseKept 3 = .ok (.istore_n 2, 1) := by decide +kernel
theorem dX3_chooseKept_4 : decode cX3_chooseKept 4 = .ok (.iload_n 2, 1) := by decide +kernel
theorem dX3_chooseKept_5 : decode cX3_chooseKept 5 = .ok (.aload_n 0, 1) := by decide +kernel
theorem dX3_chooseKept_6 : decode cX3_chooseKept 6 = .ok (.getfield 26, 3) := by decide +kernel
theorem dX3_chooseKept_9 : decode cX3_chooseKept 9 = .ok (.getfield 69, 3) := by decide +kernel
theorem dX3_chooseKept_12 : decode cX3_chooseKept 12 = .ok (.if_icmp .ge 29, 3) := by decide +kernel
theorem dX3_chooseKept_15 : decode cX3_chooseKept 15 = .ok (.iload_n 1, 1) := by decide +kernel
theorem dX3_chooseKept_16 : decode cX3_chooseKept 16 = .ok (.aload_n 0, 1) := by decide +kernel
theorem dX3_chooseKept_17 : decode cX3_chooseKept 17 = .ok (.getfield 9, 3) := by decide +kernel
theorem dX3_chooseKept_20 : decode cX3_chooseKept 20 = .ok (.iload_n 2, 1) := by decide +kernel
theorem dX3_chooseKept_21 : decode cX3_chooseKept 21 = .ok (.iaload, 1) := by decide +kernel
theorem dX3_chooseKept_22 : decode cX3_chooseKept 22 = .ok (.iconst (-1), 1) := by decide +kernel
theorem dX3_chooseKept_23 : decode cX3_chooseKept 23 = .ok (.if_icmp .eq 9, 3) := by decide +kernel
theorem dX3_chooseKept_26 : decode cX3_chooseKept 26 = .ok (.iconst 1, 1) := by decide +kernel
theorem dX3_chooseKept_27 : decode cX3_chooseKept 27 = .ok (.iload_n 2, 1) := by decide +kernel
theorem dX3_chooseKept_28 : decode cX3_chooseKept 28 = .ok (.ishl, 1) := by decide +kernel
theorem dX3_chooseKept_29 : decode cX3_chooseKept 29 = .ok (.goto 4, 3) := by decide +kernel
theorem dX3_chooseKept_32 : decode cX3_chooseKept 32 = .ok (.iconst 0, 1) := by decide +kernel
theorem dX3_chooseKept_33 : decode cX3_chooseKept 33 = .ok (.ior, 1) := by decide +kernel
theorem dX3_chooseKept_34 : decode cX3_chooseKept 34 = .ok (.istore_n 1, 1) := by decide +kernel
theorem dX3_chooseKept_35 : decode cX3_chooseKept 35 = .ok (.iinc 2 1, 3) := by decide +kernel
theorem dX3_chooseKept_38 : decode cX3_chooseKept 38 = .ok (.goto (-34), 3) := by decide +kernel
theorem dX3_chooseKept_41 : decode cX3_chooseKept 41 = .ok (.aload_n 0, 1) := by decide +kernel
theorem dX3_chooseKept_42 : decode cX3_chooseKept 42 = .ok (.iconst 0, 1) := by decide +kernel
theorem dX3_chooseKept_43 : decode cX3_chooseKept 43 = .ok (.putfield 65, 3) := by decide +kernel
theorem dX3_chooseKept_46 : decode cX3_chooseKept 46 = .ok (.iconst 0, 1) := by decide +kernel
theorem dX3_chooseKept_47 : decode cX3_chooseKept 47 = .ok (.istore_n 2, 1) := by decide +kernel
theorem dX3_chooseKept_48 : decode cX3_chooseKept 48 = .ok (.iload_n 2, 1) := by decide +kernel
theorem dX3_chooseKept_49 : decode cX3_chooseKept 49 = .ok (.aload_n 0, 1) := by decide +kernel
theorem dX3_chooseKept_50 : decode cX3_chooseKept 50 = .ok (.getfield 26, 3) := by decide +kernel
theorem dX3_chooseKept_53 : decode cX3_chooseKept 53 = .ok (.getfield 69, 3) := by decide +kernel
theorem dX3_chooseKept_56 : decode cX3_chooseKept 56 = .ok (.if_icmp .ge 90, 3) := by decide +kernel
theorem dX3_chooseKept_59 : decode cX3_chooseKept 59 = .ok (.iconst 1, 1) := by decide +kernel
theorem dX3_chooseKept_60 : decode cX3_chooseKept 60 = .ok (.iload_n 2, 1) := by decide +kernel
theorem dX3_chooseKept_61 : decode cX3_chooseKept 61 = .ok (.ishl, 1) := by decide +kernel
theorem dX3_chooseKept_62 : decode cX3_chooseKept 62 = .ok (.istore_n 3, 1) := by decide +kernel
theorem dX3_chooseKept_63 : decode cX3_chooseKept 63 = .ok (.iload_n 1, 1) := by decide +kernel
theorem dX3_chooseKept_64 : decode cX3_chooseKept 64 = .ok (.iload_n 3, 1) := by decide +kernel
theorem dX3_chooseKept_65 : decode cX3_chooseKept 65 = .ok (.iand, 1) := by decide +kernel
theorem dX3_chooseKept_66 : decode cX3_chooseKept 66 = .ok (.ifCond .ne 6, 3) := by decide +kernel
theorem dX3_chooseKept_69 : decode cX3_chooseKept 69 = .ok (.goto 71, 3) := by decide +kernel
theorem dX3_chooseKept_72 : decode cX3_chooseKept 72 = .ok (.aload_n 0, 1) := by decide +kernel
theorem dX3_chooseKept_73 : decode cX3_chooseKept 73 = .ok (.getfield 15, 3) := by decide +kernel
theorem dX3_chooseKept_76 : decode cX3_chooseKept 76 = .ok (.iload_n 2, 1) := by decide +kernel
theorem dX3_chooseKept_77 : decode cX3_chooseKept 77 = .ok (.iload_n 1, 1) := by decide +kernel
theorem dX3_chooseKept_78 : decode cX3_chooseKept 78 = .ok (.invokestatic 96, 3) := by decide +kernel
theorem dX3_chooseKept_81 : decode cX3_chooseKept 81 = .ok (.istore 4, 2) := by decide +kernel
theorem dX3_chooseKept_83 : decode cX3_chooseKept 83 = .ok (.iload_n 1, 1) := by decide +kernel
theorem dX3_chooseKept_84 : decode cX3_chooseKept 84 = .ok (.iload_n 3, 1) := by decide +kernel
theorem dX3_chooseKept_85 : decode cX3_chooseKept 85 = .ok (.iconst (-1), 1) := by decide +kernel
theorem dX3_chooseKept_86 : decode cX3_chooseKept 86 = .ok (.ixor, 1) := by decide +kernel
theorem dX3_chooseKept_87 : decode cX3_chooseKept 87 = .ok (.iand, 1) := by decide +kernel
theorem dX3_chooseKept_88 : decode cX3_chooseKept 88 = .ok (.aload_n 0, 1) := by decide +kernel
theorem dX3_chooseKept_89 : decode cX3_chooseKept 89 = .ok (.getfield 15, 3) := by decide +kernel
theorem dX3_chooseKept_92 : decode cX3_chooseKept 92 = .ok (.iload_n 2, 1) := by decide +kernel
theorem dX3_chooseKept_93 : decode cX3_chooseKept 93 = .ok (.iaload, 1) := by decide +kernel
theorem dX3_chooseKept_94 : decode cX3_chooseKept 94 = .ok (.iconst (-1), 1) := by decide +kernel
theorem dX3_chooseKept_95 : decode cX3_chooseKept 95 = .ok (.ixor, 1) := by decide +kernel
theorem dX3_chooseKept_96 : decode cX3_chooseKept 96 = .ok (.iand, 1) := by decide +kernel
theorem dX3_chooseKept_97 : decode cX3_chooseKept 97 = .ok (.istore 5, 2) := by decide +kernel
theorem dX3_chooseKept_99 : decode cX3_chooseKept 99 = .ok (.iconst 1, 1) := by decide +kernel
theorem dX3_chooseKept_100 : decode cX3_chooseKept 100 = .ok (.aload_n 0, 1) := by decide +kernel
theorem dX3_chooseKept_101 : decode cX3_chooseKept 101 = .ok (.getfield 15, 3) := by decide +kernel
theorem dX3_chooseKept_104 : decode cX3_chooseKept 104 = .ok (.iload_n 2, 1) := by decide +kernel
theorem dX3_chooseKept_105 : decode cX3_chooseKept 105 = .ok (.iconst 1, 1) := by decide +kernel
theorem dX3_chooseKept_106 : decode cX3_chooseKept 106 = .ok (.iadd, 1) := by decide +kernel
theorem dX3_chooseKept_107 : decode cX3_chooseKept 107 = .ok (.iload 5, 2) := by decide +kernel
theorem dX3_chooseKept_109 : decode cX3_chooseKept 109 = .ok (.invokestatic 96, 3) := by decide +kernel
theorem dX3_chooseKept_112 : decode cX3_chooseKept 112 = .ok (.iadd, 1) := by decide +kernel
theorem dX3_chooseKept_113 : decode cX3_chooseKept 113 = .ok (.iload 4, 2) := by decide +kernel
theorem dX3_chooseKept_115 : decode cX3_chooseKept 115 = .ok (.if_icmp .ne 19, 3) := by decide +kernel
theorem dX3_chooseKept_118 : decode cX3_chooseKept 118 = .ok (.aload_n 0, 1) := by decide +kernel
theorem dX3_chooseKept_119 : decode cX3_chooseKept 119 = .ok (.dup, 1) := by decide +kernel
theorem dX3_chooseKept_120 : decode cX3_chooseKept 120 = .ok (.getfield 65, 3) := by decide +kernel
theorem dX3_chooseKept_123 : decode cX3_chooseKept 123 = .ok (.iload_n 3, 1) := by decide +kernel
theorem dX3_chooseKept_124 : decode cX3_chooseKept 124 = .ok (.ior, 1) := by decide +kernel
theorem dX3_chooseKept_125 : decode cX3_chooseKept 125 = .ok (.putfield 65, 3) := by decide +kernel
theorem dX3_chooseKept_128 : decode cX3_chooseKept 128 = .ok (.iload 5, 2) := by decide +kernel
theorem dX3_chooseKept_130 : decode cX3_chooseKept 130 = .ok (.istore_n 1, 1) := by decide +kernel
theorem dX3_chooseKept_131 : decode cX3_chooseKept 131 = .ok (.goto 9, 3) := by decide +kernel
theorem dX3_chooseKept_134 : decode cX3_chooseKept 134 = .ok (.iload_n 1, 1) := by decide +kernel
theorem dX3_chooseKept_135 : decode cX3_chooseKept 135 = .ok (.iload_n 3, 1) := by decide +kernel
theorem dX3_chooseKept_136 : decode cX3_chooseKept 136 = .ok (.iconst (-1), 1) := by decide +kernel
theorem dX3_chooseKept_137 : decode cX3_chooseKept 137 = .ok (.ixor, 1) := by decide +kernel
theorem dX3_chooseKept_138 : decode cX3_chooseKept 138 = .ok (.iand, 1) := by decide +kernel
theorem dX3_chooseKept_139 : decode cX3_chooseKept 139 = .ok (.istore_n 1, 1) := by decide +kernel
theorem dX3_chooseKept_140 : decode cX3_chooseKept 140 = .ok (.iinc 2 1, 3) := by decide +kernel
theorem dX3_chooseKept_143 : decode cX3_chooseKept 143 = .ok (.goto (-95), 3) := by decide +kernel
theorem dX3_chooseKept_146 : decode cX3_chooseKept 146 = .ok (.return_, 1) := by decide +kernel
set_option maxRecDepth 20000 in
theorem ggX3_mostKept_X3_mostKept : GoodIn wsX3_mostKept wsX3_mostKept := goodIn_r _ [0, 1, 2, 3, 4, 5, 6, 7] (by decide +kernel) (by decide +kernel)
set_option maxRecDepth 20000 in
theorem gX3_mostKept_X3_mostKept : GoodIn wsX3_mostKept (va_wsS RX3 96 yX3_mostKept wsX3_mostKept) := goodIn_app (goodIn_of _ (by decide +kernel)) ggX3_mostKept_X3_mostKept
theorem dX3_mostKept_0 : decode cX3_mostKept 0 = .ok (.iload_n 2, 1) := by decide +kernel
theorem dX3_mostKept_1 : decode cX3_mostKept 1 = .ok (.ifCond .eq 9, 3) := by decide +kernel
theorem dX3_mostKept_4 : decode cX3_mostKept 4 = .ok (.iload_n 1, 1) := by decide +kernel
theorem dX3_mostKept_5 : decode cX3_mostKept 5 = .ok (.aload_n 0, 1) := by decide +kernel
theorem dX3_mostKept_6 : decode cX3_mostKept 6 = .ok (.arraylength, 1) := by decide +kernel
theorem dX3_mostKept_7 : decode cX3_mostKept 7 = .ok (.if_icmp .lt 5, 3) := by decide +kernel
theorem dX3_mostKept_10 : decode cX3_mostKept 10 = .ok (.iconst 0, 1) := by decide +kernel
theorem dX3_mostKept_11 : decode cX3_mostKept 11 = .ok (.ireturn, 1) := by decide +kernel
theorem dX3_mostKept_12 : decode cX3_mostKept 12 = .ok (.iconst 1, 1) := by decide +kernel
theorem dX3_mostKept_13 : decode cX3_mostKept 13 = .ok (.iload_n 1, 1) := by decide +kernel
theorem dX3_mostKept_14 : decode cX3_mostKept 14 = .ok (.ishl, 1) := by decide +kernel
theorem dX3_mostKept_15 : decode cX3_mostKept 15 = .ok (.istore_n 3, 1) := by decide +kernel
theorem dX3_mostKept_16 : decode cX3_mostKept 16 = .ok (.iload_n 2, 1) := by decide +kernel
theorem dX3_mostKept_17 : decode cX3_mostKept 17 = .ok (.iload_n 3, 1) := by decide +kernel
theorem dX3_mostKept_18 : decode cX3_mostKept 18 = .ok (.iconst (-1), 1) := by decide +kernel
theorem dX3_mostKept_19 : decode cX3_mostKept 19 = .ok (.ixor, 1) := by decide +kernel
theorem dX3_mostKept_20 : decode cX3_mostKept 20 = .ok (.iand, 1) := by decide +kernel
theorem dX3_mostKept_21 : decode cX3_mostKept 21 = .ok (.istore 4, 2) := by decide +kernel
theorem dX3_mostKept_23 : decode cX3_mostKept 23 = .ok (.iload_n 2, 1) := by decide +kernel
theorem dX3_mostKept_24 : decode cX3_mostKept 24 = .ok (.iload_n 3, 1) := by decide +kernel
theorem dX3_mostKept_25 : decode cX3_mostKept 25 = .ok (.iand, 1) := by decide +kernel
theorem dX3_mostKept_26 : decode cX3_mostKept 26 = .ok (.ifCond .ne 13, 3) := by decide +kernel
theorem dX3_mostKept_29 : decode cX3_mostKept 29 = .ok (.aload_n 0, 1) := by decide +kernel
theorem dX3_mostKept_30 : decode cX3_mostKept 30 = .ok (.iload_n 1, 1) := by decide +kernel
theorem dX3_mostKept_31 : decode cX3_mostKept 31 = .ok (.iconst 1, 1) := by decide +kernel
theorem dX3_mostKept_32 : decode cX3_mostKept 32 = .ok (.iadd, 1) := by decide +kernel
theorem dX3_mostKept_33 : decode cX3_mostKept 33 = .ok (.iload 4, 2) := by decide +kernel
theorem dX3_mostKept_35 : decode cX3_mostKept 35 = .ok (.invokestatic 96, 3) := by decide +kernel
theorem dX3_mostKept_38 : decode cX3_mostKept 38 = .ok (.ireturn, 1) := by decide +kernel
theorem dX3_mostKept_39 : decode cX3_mostKept 39 = .ok (.iconst 1, 1) := by decide +kernel
theorem dX3_mostKept_40 : decode cX3_mostKept 40 = .ok (.aload_n 0, 1) := by decide +kernel
theorem dX3_mostKept_41 : decode cX3_mostKept 41 = .ok (.iload_n 1, 1) := by decide +kernel
theorem dX3_mostKept_42 : decode cX3_mostKept 42 = .ok (.iconst 1, 1) := by decide +kernel
theorem dX3_mostKept_43 : decode cX3_mostKept 43 = .ok (.iadd, 1) := by decide +kernel
theorem dX3_mostKept_44 : decode cX3_mostKept 44 = .ok (.iload 4, 2) := by decide +kernel
theorem dX3_mostKept_46 : decode cX3_mostKept 46 = .ok (.aload_n 0, 1) := by decide +kernel
theorem dX3_mostKept_47 : decode cX3_mostKept 47 = .ok (.iload_n 1, 1) := by decide +kernel
theorem dX3_mostKept_48 : decode cX3_mostKept 48 = .ok (.iaload, 1) := by decide +kernel
theorem dX3_mostKept_49 : decode cX3_mostKept 49 = .ok (.iconst (-1), 1) := by decide +kernel
theorem dX3_mostKept_50 : decode cX3_mostKept 50 = .ok (.ixor, 1) := by decide +kernel
theorem dX3_mostKept_51 : decode cX3_mostKept 51 = .ok (.iand, 1) := by decide +kernel
theorem dX3_mostKept_52 : decode cX3_mostKept 52 = .ok (.invokestatic 96, 3) := by decide +kernel
theorem dX3_mostKept_55 : decode cX3_mostKept 55 = .ok (.iadd, 1) := by decide +kernel
theorem dX3_mostKept_56 : decode cX3_mostKept 56 = .ok (.istore 5, 2) := by decide +kernel
theorem dX3_mostKept_58 : decode cX3_mostKept 58 = .ok (.iload 4, 2) := by decide +kernel
theorem dX3_mostKept_60 : decode cX3_mostKept 60 = .ok (.aload_n 0, 1) := by decide +kernel
theorem dX3_mostKept_61 : decode cX3_mostKept 61 = .ok (.iload_n 1, 1) := by decide +kernel
theorem dX3_mostKept_62 : decode cX3_mostKept 62 = .ok (.iaload, 1) := by decide +kernel
theorem dX3_mostKept_63 : decode cX3_mostKept 63 = .ok (.iand, 1) := by decide +kernel
theorem dX3_mostKept_64 : decode cX3_mostKept 64 = .ok (.ifCond .ne 6, 3) := by decide +kernel
theorem dX3_mostKept_67 : decode cX3_mostKept 67 = .ok (.iload 5, 2) := by decide +kernel
theorem dX3_mostKept_69 : decode cX3_mostKept 69 = .ok (.ireturn, 1) := by decide +kernel
theorem dX3_mostKept_70 : decode cX3_mostKept 70 = .ok (.iload 5, 2) := by decide +kernel
theorem dX3_mostKept_72 : decode cX3_mostKept 72 = .ok (.aload_n 0, 1) := by decide +kernel
theorem dX3_mostKept_73 : decode cX3_mostKept 73 = .ok (.iload_n 1, 1) := by decide +kernel
theorem dX3_mostKept_74 : decode cX3_mostKept 74 = .ok (.iconst 1, 1) := by decide +kernel
theorem dX3_mostKept_75 : decode cX3_mostKept 75 = .ok (.iadd, 1) := by decide +kernel
theorem dX3_mostKept_76 : decode cX3_mostKept 76 = .ok (.iload 4, 2) := by decide +kernel
theorem dX3_mostKept_78 : decode cX3_mostKept 78 = .ok (.invokestatic 96, 3) := by decide +kernel
theorem dX3_mostKept_81 : decode cX3_mostKept 81 = .ok (.invokestatic 100, 3) := by decide +kernel
theorem dX3_mostKept_84 : decode cX3_mostKept 84 = .ok (.ireturn, 1) := by decide +kernel
set_option maxRecDepth 20000 in
theorem ggX3_countChanges_J6_bitCount_0f7a4 : GoodIn wsX3_countChanges wsJ6_bitCount_0f7a4 := goodIn_r _ [9, 10, 11, 12] (by decide +kernel) (by decide +kernel)
set_option maxRecDepth 20000 in
theorem gX3_countChanges_J6_bitCount_0f7a4 : GoodIn wsX3_countChanges (va_wsS RX3 107 yJ6_bitCount_0f7a4 wsJ6_bitCount_0f7a4) := goodIn_app (goodIn_of _ (by decide +kernel)) ggX3_countChanges_J6_bitCount_0f7a4
set_option maxRecDepth 20000 in
theorem ggX3_countChanges_X0_lineAt : GoodIn wsX3_countChanges wsX0_lineAt := goodIn_r _ [17, 18, 19, 20, 21, 16, 22, 23, 51, 52] (by decide +kernel) (by decide +kernel)
set_option maxRecDepth 20000 in
theorem gX3_countChanges_X0_lineAt : GoodIn wsX3_countChanges (wsV RX3 72 RX0 yX0_lineAt wsX0_lineAt) := goodIn_app (goodIn_of _ (by decide +kernel)) ggX3_countChanges_X0_lineAt
set_option maxRecDepth 20000 in
theorem ggX3_countChanges_X1_roleOf : GoodIn wsX3_countChanges wsX1_roleOf := goodIn_r _ [28, 29, 30, 31, 32, 27, 33, 34, 53, 54, 55, 56, 57, 58] (by decide +kernel) (by decide +kernel)
set_option maxRecDepth 20000 in
theorem gX3_countChanges_X1_roleOf : GoodIn wsX3_countChanges (wsV RX3 81 RX1 yX1_roleOf wsX1_roleOf) := goodIn_app (goodIn_of _ (by decide +kernel)) ggX3_countChanges_X1_roleOf
theorem dX3_countChanges_0 : decode cX3_countChanges 0 = .ok (.aload_n 0, 1) := by decide +kernel
theorem dX3_countChanges_1 : decode cX3_countChanges 1 = .ok (.getfield 22, 3) := by decide +kernel
theorem dX3_countChanges_4 : decode cX3_countChanges 4 = .ok (.getfield 106, 3) := by decide +kernel
theorem dX3_countChanges_7 : decode cX3_countChanges 7 = .ok (.aload_n 0, 1) := by decide +kernel
theorem dX3_countChanges_8 : decode cX3_countChanges 8 = .ok (.getfield 65, 3) := by decide +kernel
theorem dX3_countChanges_11 : decode cX3_countChanges 11 = .ok (.invokestatic 107, 3) := by decide +kernel
theorem dX3_countChanges_14 : decode cX3_countChanges 14 = .ok (.isub, 1) := by decide +kernel
theorem dX3_countChanges_15 : decode cX3_countChanges 15 = .ok (.istore_n 1, 1) := by decide +kernel
theorem dX3_countChanges_16 : decode cX3_countChanges 16 = .ok (.iconst 0, 1) := by decide +kernel
theorem dX3_countChanges_17 : decode cX3_countChanges 17 = .ok (.istore_n 2, 1) := by decide +kernel
theorem dX3_countChanges_18 : decode cX3_countChanges 18 = .ok (.iload_n 2, 1) := by decide +kernel
theorem dX3_countChanges_19 : decode cX3_countChanges 19 = .ok (.aload_n 0, 1) := by decide +kernel
theorem dX3_countChanges_20 : decode cX3_countChanges 20 = .ok (.getfield 26, 3) := by decide +kernel
theorem dX3_countChanges_23 : decode cX3_countChanges 23 = .ok (.getfield 69, 3) := by decide +kernel
theorem dX3_countChanges_26 : decode cX3_countChanges 26 = .ok (.if_icmp .ge 45, 3) := by decide +kernel
theorem dX3_countChanges_29 : decode cX3_countChanges 29 = .ok (.aload_n 0, 1) := by decide +kernel
theorem dX3_countChanges_30 : decode cX3_countChanges 30 = .ok (.getfield 18, 3) := by decide +kernel
theorem dX3_countChanges_33 : decode cX3_countChanges 33 = .ok (.aload_n 0, 1) := by decide +kernel
theorem dX3_countChanges_34 : decode cX3_countChanges 34 = .ok (.getfield 26, 3) := by decide +kernel
theorem dX3_countChanges_37 : decode cX3_countChanges 37 = .ok (.iload_n 2, 1) := by decide +kernel
theorem dX3_countChanges_38 : decode cX3_countChanges 38 = .ok (.invokevirtual 72, 3) := by decide +kernel
theorem dX3_countChanges_41 : decode cX3_countChanges 41 = .ok (.invokevirtual 81, 3) := by decide +kernel
theorem dX3_countChanges_44 : decode cX3_countChanges 44 = .ok (.ifCond .ne 7, 3) := by decide +kernel
theorem dX3_countChanges_47 : decode cX3_countChanges 47 = .ok (.iconst 1, 1) := by decide +kernel
theorem dX3_countChanges_48 : decode cX3_countChanges 48 = .ok (.goto 4, 3) := by decide +kernel
theorem dX3_countChanges_51 : decode cX3_countChanges 51 = .ok (.iconst 0, 1) := by decide +kernel
theorem dX3_countChanges_52 : decode cX3_countChanges 52 = .ok (.istore_n 3, 1) := by decide +kernel
theorem dX3_countChanges_53 : decode cX3_countChanges 53 = .ok (.iload_n 1, 1) := by decide +kernel
theorem dX3_countChanges_54 : decode cX3_countChanges 54 = .ok (.iload_n 3, 1) := by decide +kernel
theorem dX3_countChanges_55 : decode cX3_countChanges 55 = .ok (.ifCond .eq 7, 3) := by decide +kernel
theorem dX3_countChanges_58 : decode cX3_countChanges 58 = .ok (.iconst 0, 1) := by decide +kernel
theorem dX3_countChanges_59 : decode cX3_countChanges 59 = .ok (.goto 4, 3) := by decide +kernel
theorem dX3_countChanges_62 : decode cX3_countChanges 62 = .ok (.iconst 1, 1) := by decide +kernel
theorem dX3_countChanges_63 : decode cX3_countChanges 63 = .ok (.iadd, 1) := by decide +kernel
theorem dX3_countChanges_64 : decode cX3_countChanges 64 = .ok (.istore_n 1, 1) := by decide +kernel
theorem dX3_countChanges_65 : decode cX3_countChanges 65 = .ok (.iinc 2 1, 3) := by decide +kernel
theorem dX3_countChanges_68 : decode cX3_countChanges 68 = .ok (.goto (-50), 3) := by decide +kernel
theorem dX3_countChanges_71 : decode cX3_countChanges 71 = .ok (.aload_n 0, 1) := by decide +kernel
theorem dX3_countChanges_72 : decode cX3_countChanges 72 = .ok (.iload_n 1, 1) := by decide +kernel
theorem dX3_countChanges_73 : decode cX3_countChanges 73 = .ok (.putfield 112, 3) := by decide +kernel
theorem dX3_countChanges_76 : decode cX3_countChanges 76 = .ok (.return_, 1) := by decide +kernel
theorem dX3_hintAt_0 : decode cX3_hintAt 0 = .ok (.aload_n 0, 1) := by decide +kernel
theorem dX3_hintAt_1 : decode cX3_hintAt 1 = .ok (.iload_n 1, 1) := by decide +kernel
theorem dX3_hintAt_2 : decode cX3_hintAt 2 = .ok (.putfield 115, 3) := by decide +kernel
theorem dX3_hintAt_5 : decode cX3_hintAt 5 = .ok (.aload_n 0, 1) := by decide +kernel
theorem dX3_hintAt_6 : decode cX3_hintAt 6 = .ok (.iload_n 2, 1) := by decide +kernel
theorem dX3_hintAt_7 : decode cX3_hintAt 7 = .ok (.putfield 118, 3) := by decide +kernel
theorem dX3_hintAt_10 : decode cX3_hintAt 10 = .ok (.aload_n 0, 1) := by decide +kernel
theorem dX3_hintAt_11 : decode cX3_hintAt 11 = .ok (.iload_n 3, 1) := by decide +kernel
theorem dX3_hintAt_12 : decode cX3_hintAt 12 = .ok (.putfield 121, 3) := by decide +kernel
theorem dX3_hintAt_15 : decode cX3_hintAt 15 = .ok (.return_, 1) := by decide +kernel
set_option maxRecDepth 20000 in
theorem ggX3_findDrop_X0_lineAt : GoodIn wsX3_findDrop wsX0_lineAt := goodIn_r _ [7, 8, 9, 10, 11, 6, 12, 13, 32, 33] (by decide +kernel) (by decide +kernel)
set_option maxRecDepth 20000 in
theorem gX3_findDrop_X0_lineAt : GoodIn wsX3_findDrop (wsV RX3 72 RX0 yX0_lineAt wsX0_lineAt) := goodIn_app (goodIn_of _ (by decide +kernel)) ggX3_findDrop_X0_lineAt
set_option maxRecDepth 20000 in
theorem ggX3_findDrop_X3_hintAt : GoodIn wsX3_findDrop wsX3_hintAt := goodIn_r _ [18, 19, 20, 21, 22, 23, 24, 25, 26, 27, 28, 29, 30, 31] (by decide +kernel) (by decide +kernel)
set_option maxRecDepth 20000 in
theorem gX3_findDrop_X3_hintAt : GoodIn wsX3_findDrop (wsV RX3 55 RX3 yX3_hintAt wsX3_hintAt) := goodIn_app (goodIn_of _ (by decide +kernel)) ggX3_findDrop_X3_hintAt
theorem dX3_findDrop_0 : decode cX3_findDrop 0 = .ok (.iconst 0, 1) := by decide +kernel
theorem dX3_findDrop_1 : decode cX3_findDrop 1 = .ok (.istore_n 1, 1) := by decide +kernel
theorem dX3_findDrop_2 : decode cX3_findDrop 2 = .ok (.iload_n 1, 1) := by decide +kernel
theorem dX3_findDrop_3 : decode cX3_findDrop 3 = .ok (.aload_n 0, 1) := by decide +kernel
theorem dX3_findDrop_4 : decode cX3_findDrop 4 = .ok (.getfield 26, 3) := by decide +kernel
theorem dX3_findDrop_7 : decode cX3_findDrop 7 = .ok (.getfield 69, 3) := by decide +kernel
theorem dX3_findDrop_10 : decode cX3_findDrop 10 = .ok (.if_icmp .ge 35, 3) := by decide +kernel
theorem dX3_findDrop_13 : decode cX3_findDrop 13 = .ok (.aload_n 0, 1) := by decide +kernel
theorem dX3_findDrop_14 : decode cX3_findDrop 14 = .ok (.getfield 9, 3) := by decide +kernel
theorem dX3_findDrop_17 : decode cX3_findDrop 17 = .ok (.iload_n 1, 1) := by decide +kernel
theorem dX3_findDrop_18 : decode cX3_findDrop 18 = .ok (.iaload, 1) := by decide +kernel
theorem dX3_findDrop_19 : decode cX3_findDrop 19 = .ok (.iconst (-1), 1) := by decide +kernel
theorem dX3_findDrop_20 : decode cX3_findDrop 20 = .ok (.if_icmp .ne 19, 3) := by decide +kernel
theorem dX3_findDrop_23 : decode cX3_findDrop 23 = .ok (.aload_n 0, 1) := by decide +kernel
theorem dX3_findDrop_24 : decode cX3_findDrop 24 = .ok (.iconst 0, 1) := by decide +kernel
theorem dX3_findDrop_25 : decode cX3_findDrop 25 = .ok (.aload_n 0, 1) := by decide +kernel
theorem dX3_findDrop_26 : decode cX3_findDrop 26 = .ok (.getfield 26, 3) := by decide +kernel
theorem dX3_findDrop_29 : decode cX3_findDrop 29 = .ok (.iload_n 1, 1) := by decide +kernel
theorem dX3_findDrop_30 : decode cX3_findDrop 30 = .ok (.invokevirtual 72, 3) := by decide +kernel
theorem dX3_findDrop_33 : decode cX3_findDrop 33 = .ok (.iload_n 1, 1) := by decide +kernel
theorem dX3_findDrop_34 : decode cX3_findDrop 34 = .ok (.invokevirtual 55, 3) := by decide +kernel
theorem dX3_findDrop_37 : decode cX3_findDrop 37 = .ok (.iconst 1, 1) := by decide +kernel
theorem dX3_findDrop_38 : decode cX3_findDrop 38 = .ok (.ireturn, 1) := by decide +kernel
theorem dX3_findDrop_39 : decode cX3_findDrop 39 = .ok (.iinc 1 1, 3) := by decide +kernel
theorem dX3_findDrop_42 : decode cX3_findDrop 42 = .ok (.goto (-40), 3) := by decide +kernel
theorem dX3_findDrop_45 : decode cX3_findDrop 45 = .ok (.iconst 0, 1) := by decide +kernel
theorem dX3_findDrop_46 : decode cX3_findDrop 46 = .ok (.ireturn, 1) := by decide +kernel
set_option maxRecDepth 20000 in
theorem ggX3_findSwap_X0_lineAt : GoodIn wsX3_findSwap wsX0_lineAt := goodIn_r _ [7, 8, 9, 10, 11, 6, 12, 13, 43, 44] (by decide +kernel) (by decide +kernel)
set_option maxRecDepth 20000 in
theorem gX3_findSwap_X0_lineAt : GoodIn wsX3_findSwap (wsV RX3 72 RX0 yX0_lineAt wsX0_lineAt) := goodIn_app (goodIn_of _ (by decide +kernel)) ggX3_findSwap_X0_lineAt
set_option maxRecDepth 20000 in
theorem ggX3_findSwap_X1_roleOf : GoodIn wsX3_findSwap wsX1_roleOf := goodIn_r _ [18, 19, 20, 21, 22, 17, 23, 24, 45, 46, 47, 48, 49, 50] (by decide +kernel) (by decide +kernel)
set_option maxRecDepth 20000 in
theorem gX3_findSwap_X1_roleOf : GoodIn wsX3_findSwap (wsV RX3 81 RX1 yX1_roleOf wsX1_roleOf) := goodIn_app (goodIn_of _ (by decide +kernel)) ggX3_findSwap_X1_roleOf
set_option maxRecDepth 20000 in
theorem ggX3_findSwap_X3_hintAt : GoodIn wsX3_findSwap wsX3_hintAt := goodIn_r _ [29, 30, 31, 32, 33, 34, 35, 36, 37, 38, 39, 40, 41, 42] (by decide +kernel) (by decide +kernel)
set_option maxRecDepth 20000 in
theorem gX3_findSwap_X3_hintAt : GoodIn wsX3_findSwap (wsV RX3 55 RX3 yX3_hintAt wsX3_hintAt) := goodIn_app (goodIn_of _ (by decide +kernel)) ggX3_findSwap_X3_hintAt
theorem dX3_findSwap_0 : decode cX3_findSwap 0 = .ok (.iconst 0, 1) := by decide +kernel
theorem dX3_findSwap_1 : decode cX3_findSwap 1 = .ok (.istore_n 1, 1) := by decide +kernel
theorem dX3_findSwap_2 : decode cX3_findSwap 2 = .ok (.iload_n 1, 1) := by decide +kernel
theorem dX3_findSwap_3 : decode cX3_findSwap 3 = .ok (.aload_n 0, 1) := by decide +kernel
theorem dX3_findSwap_4 : decode cX3_findSwap 4 = .ok (.getfield 26, 3) := by decide +kernel
theorem dX3_findSwap_7 : decode cX3_findSwap 7 = .ok (.getfield 69, 3) := by decide +kernel
theorem dX3_findSwap_10 : decode cX3_findSwap 10 = .ok (.if_icmp .ge 39, 3) := by decide +kernel
theorem dX3_findSwap_13 : decode cX3_findSwap 13 = .ok (.aload_n 0, 1) := by decide +kernel
theorem dX3_findSwap_14 : decode cX3_findSwap 14 = .ok (.getfield 26, 3) := by decide +kernel
theorem dX3_findSwap_17 : decode cX3_findSwap 17 = .ok (.iload_n 1, 1) := by decide +kernel
theorem dX3_findSwap_18 : decode cX3_findSwap 18 = .ok (.invokevirtual 72, 3) := by decide +kernel
theorem dX3_findSwap_21 : decode cX3_findSwap 21 = .ok (.istore_n 2, 1) := by decide +kernel
theorem dX3_findSwap_22 : decode cX3_findSwap 22 = .ok (.aload_n 0, 1) := by decide +kernel
theorem dX3_findSwap_23 : decode cX3_findSwap 23 = .ok (.getfield 18, 3) := by decide +kernel
theorem dX3_findSwap_26 : decode cX3_findSwap 26 = .ok (.iload_n 2, 1) := by decide +kernel
theorem dX3_findSwap_27 : decode cX3_findSwap 27 = .ok (.invokevirtual 81, 3) := by decide +kernel
theorem dX3_findSwap_30 : decode cX3_findSwap 30 = .ok (.iconst 2, 1) := by decide +kernel
theorem dX3_findSwap_31 : decode cX3_findSwap 31 = .ok (.if_icmp .ne 12, 3) := by decide +kernel
theorem dX3_findSwap_34 : decode cX3_findSwap 34 = .ok (.aload_n 0, 1) := by decide +kernel
theorem dX3_findSwap_35 : decode cX3_findSwap 35 = .ok (.iconst 3, 1) := by decide +kernel
theorem dX3_findSwap_36 : decode cX3_findSwap 36 = .ok (.iload_n 2, 1) := by decide +kernel
theorem dX3_findSwap_37 : decode cX3_findSwap 37 = .ok (.iload_n 1, 1) := by decide +kernel
theorem dX3_findSwap_38 : decode cX3_findSwap 38 = .ok (.invokevirtual 55, 3) := by decide +kernel
theorem dX3_findSwap_41 : decode cX3_findSwap 41 = .ok (.iconst 1, 1) := by decide +kernel
theorem dX3_findSwap_42 : decode cX3_findSwap 42 = .ok (.ireturn, 1) := by decide +kernel
theorem dX3_findSwap_43 : decode cX3_findSwap 43 = .ok (.iinc 1 1, 3) := by decide +kernel
theorem dX3_findSwap_46 : decode cX3_findSwap 46 = .ok (.goto (-44), 3) := by decide +kernel
theorem dX3_findSwap_49 : decode cX3_findSwap 49 = .ok (.iconst 0, 1) := by decide +kernel
theorem dX3_findSwap_50 : decode cX3_findSwap 50 = .ok (.ireturn, 1) := by decide +kernel
set_option maxRecDepth 20000 in
theorem ggX3_findAdd_X4_lineOf : GoodIn wsX3_findAdd wsX4_lineOf := goodIn_r _ [7, 8, 9, 58, 59, 60, 61, 62, 63] (by decide +kernel) (by decide +kernel)
set_option maxRecDepth 20000 in
theorem gX3_findAdd_X4_lineOf : GoodIn wsX3_findAdd (wsV RX3 124 RX4 yX4_lineOf wsX4_lineOf) := goodIn_app (goodIn_of _ (by decide +kernel)) ggX3_findAdd_X4_lineOf
set_option maxRecDepth 20000 in
theorem ggX3_findAdd_X0_holds : GoodIn wsX3_findAdd wsX0_holds := goodIn_r _ [14, 15, 16, 17, 13, 18, 19, 20, 64, 65] (by decide +kernel) (by decide +kernel)
set_option maxRecDepth 20000 in
theorem gX3_findAdd_X0_holds : GoodIn wsX3_findAdd (wsV RX3 84 RX0 yX0_holds wsX0_holds) := goodIn_app (goodIn_of _ (by decide +kernel)) ggX3_findAdd_X0_holds
set_option maxRecDepth 20000 in
theorem ggX3_findAdd_X3_placeBehindKept : GoodIn wsX3_findAdd wsX3_placeBehindKept := goodIn_r _ [25, 2, 1, 26, 27, 28, 29, 24, 30, 31, 32, 33, 34, 13, 35, 19, 36, 37, 38, 6, 39, 8, 40, 48, 49, 50, 51, 52, 53, 54, 55, 56, 57, 64, 65, 58, 59, 60, 61, 62, 63] (by decide +kernel) (by decide +kernel)
set_option maxRecDepth 20000 in
theorem gX3_findAdd_X3_placeBehindKept : GoodIn wsX3_findAdd (wsV RX3 127 RX3 yX3_placeBehindKept wsX3_placeBehindKept) := goodIn_app (goodIn_of _ (by decide +kernel)) ggX3_findAdd_X3_placeBehindKept
set_option maxRecDepth 20000 in
theorem ggX3_findAdd_X3_hintAt : GoodIn wsX3_findAdd wsX3_hintAt := goodIn_r _ [44, 45, 46, 47, 48, 49, 50, 51, 52, 53, 54, 55, 56, 57] (by decide +kernel) (by decide +kernel)
set_option maxRecDepth 20000 in
theorem gX3_findAdd_X3_hintAt : GoodIn wsX3_findAdd (wsV RX3 55 RX3 yX3_hintAt wsX3_hintAt) := goodIn_app (goodIn_of _ (by decide +kernel)) ggX3_findAdd_X3_hintAt
theorem dX3_findAdd_0 : decode cX3_findAdd 0 = .ok (.iconst 0, 1) := by decide +kernel
theorem dX3_findAdd_1 : decode cX3_findAdd 1 = .ok (.istore_n 1, 1) := by decide +kernel
theorem dX3_findAdd_2 : decode cX3_findAdd 2 = .ok (.iload_n 1, 1) := by decide +kernel
theorem dX3_findAdd_3 : decode cX3_findAdd 3 = .ok (.aload_n 0, 1) := by decide +kernel
theorem dX3_findAdd_4 : decode cX3_findAdd 4 = .ok (.getfield 22, 3) := by decide +kernel
theorem dX3_findAdd_7 : decode cX3_findAdd 7 = .ok (.getfield 106, 3) := by decide +kernel
theorem dX3_findAdd_10 : decode cX3_findAdd 10 = .ok (.if_icmp .ge 43, 3) := by decide +kernel
theorem dX3_findAdd_13 : decode cX3_findAdd 13 = .ok (.aload_n 0, 1) := by decide +kernel
theorem dX3_findAdd_14 : decode cX3_findAdd 14 = .ok (.getfield 22, 3) := by decide +kernel
theorem dX3_findAdd_17 : decode cX3_findAdd 17 = .ok (.iload_n 1, 1) := by decide +kernel
theorem dX3_findAdd_18 : decode cX3_findAdd 18 = .ok (.invokevirtual 124, 3) := by decide +kernel
theorem dX3_findAdd_21 : decode cX3_findAdd 21 = .ok (.istore_n 2, 1) := by decide +kernel
theorem dX3_findAdd_22 : decode cX3_findAdd 22 = .ok (.aload_n 0, 1) := by decide +kernel
theorem dX3_findAdd_23 : decode cX3_findAdd 23 = .ok (.getfield 26, 3) := by decide +kernel
theorem dX3_findAdd_26 : decode cX3_findAdd 26 = .ok (.iload_n 2, 1) := by decide +kernel
theorem dX3_findAdd_27 : decode cX3_findAdd 27 = .ok (.invokevirtual 84, 3) := by decide +kernel
theorem dX3_findAdd_30 : decode cX3_findAdd 30 = .ok (.ifCond .ne 17, 3) := by decide +kernel
theorem dX3_findAdd_33 : decode cX3_findAdd 33 = .ok (.aload_n 0, 1) := by decide +kernel
theorem dX3_findAdd_34 : decode cX3_findAdd 34 = .ok (.iconst 1, 1) := by decide +kernel
theorem dX3_findAdd_35 : decode cX3_findAdd 35 = .ok (.iload_n 2, 1) := by decide +kernel
theorem dX3_findAdd_36 : decode cX3_findAdd 36 = .ok (.aload_n 0, 1) := by decide +kernel
theorem dX3_findAdd_37 : decode cX3_findAdd 37 = .ok (.iload_n 1, 1) := by decide +kernel
theorem dX3_findAdd_38 : decode cX3_findAdd 38 = .ok (.iconst (-1), 1) := by decide +kernel
theorem dX3_findAdd_39 : decode cX3_findAdd 39 = .ok (.invokevirtual 127, 3) := by decide +kernel
theorem dX3_findAdd_42 : decode cX3_findAdd 42 = .ok (.invokevirtual 55, 3) := by decide +kernel
theorem dX3_findAdd_45 : decode cX3_findAdd 45 = .ok (.iconst 1, 1) := by decide +kernel
theorem dX3_findAdd_46 : decode cX3_findAdd 46 = .ok (.ireturn, 1) := by decide +kernel
theorem dX3_findAdd_47 : decode cX3_findAdd 47 = .ok (.iinc 1 1, 3) := by decide +kernel
theorem dX3_findAdd_50 : decode cX3_findAdd 50 = .ok (.goto (-48), 3) := by decide +kernel
theorem dX3_findAdd_53 : decode cX3_findAdd 53 = .ok (.iconst 0, 1) := by decide +kernel
theorem dX3_findAdd_54 : decode cX3_findAdd 54 = .ok (.ireturn, 1) := by decide +kernel
set_option maxRecDepth 20000 in
theorem ggX3_findMove_X3_isKept : GoodIn wsX3_findMove wsX3_isKept := goodIn_r _ [7, 1, 8, 9, 10, 11, 12, 13, 14, 40, 41, 42, 43, 44, 45, 46, 47, 48, 49, 50, 51] (by decide +kernel) (by decide +kernel)
set_option maxRecDepth 20000 in
theorem gX3_findMove_X3_isKept : GoodIn wsX3_findMove (wsV RX3 130 RX3 yX3_isKept wsX3_isKept) := goodIn_app (goodIn_of _ (by decide +kernel)) ggX3_findMove_X3_isKept
set_option maxRecDepth 20000 in
theorem ggX3_findMove_X0_lineAt : GoodIn wsX3_findMove wsX0_lineAt := goodIn_r _ [18, 19, 20, 10, 11, 12, 13, 14, 50, 51] (by decide +kernel) (by decide +kernel)
set_option maxRecDepth 20000 in
theorem gX3_findMove_X0_lineAt : GoodIn wsX3_findMove (wsV RX3 72 RX0 yX0_lineAt wsX0_lineAt) := goodIn_app (goodIn_of _ (by decide +kernel)) ggX3_findMove_X0_lineAt
set_option maxRecDepth 20000 in
theorem ggX3_findMove_X3_placeBehindKept : GoodIn wsX3_findMove wsX3_placeBehindKept := goodIn_r _ [24, 1, 25, 2, 3, 4, 5, 6, 7, 8, 9, 10, 11, 12, 13, 14, 26, 27, 28, 29, 30, 31, 32, 40, 41, 42, 43, 44, 45, 46, 47, 48, 49, 50, 51, 52, 53, 54, 55, 56, 57] (by decide +kernel) (by decide +kernel)
set_option maxRecDepth 20000 in
theorem gX3_findMove_X3_placeBehindKept : GoodIn wsX3_findMove (wsV RX3 127 RX3 yX3_placeBehindKept wsX3_placeBehindKept) := goodIn_app (goodIn_of _ (by decide +kernel)) ggX3_findMove_X3_placeBehindKept
set_option maxRecDepth 20000 in
theorem ggX3_findMove_X3_hintAt : GoodIn wsX3_findMove wsX3_hintAt := goodIn_r _ [36, 37, 38, 39, 40, 41, 42, 43, 44, 45, 46, 47, 48, 49] (by decide +kernel) (by decide +kernel)
set_option maxRecDepth 20000 in
theorem gX3_findMove_X3_hintAt : GoodIn wsX3_findMove (wsV RX3 55 RX3 yX3_hintAt wsX3_hintAt) := goodIn_app (goodIn_of _ (by decide +kernel)) ggX3_findMove_X3_hintAt
theorem dX3_findMove_0 : decode cX3_findMove 0 = .ok (.iconst 0, 1) := by decide +kernel
theorem dX3_findMove_1 : decode cX3_findMove 1 = .ok (.istore_n 1, 1) := by decide +kernel
theorem dX3_findMove_2 : decode cX3_findMove 2 = .ok (.iload_n 1, 1) := by decide +kernel
theorem dX3_findMove_3 : decode cX3_findMove 3 = .ok (.aload_n 0, 1) := by decide +kernel
theorem dX3_findMove_4 : decode cX3_findMove 4 = .ok (.getfield 26, 3) := by decide +kernel
theorem dX3_findMove_7 : decode cX3_findMove 7 = .ok (.getfield 69, 3) := by decide +kernel
theorem dX3_findMove_10 : decode cX3_findMove 10 = .ok (.if_icmp .ge 43, 3) := by decide +kernel
theorem dX3_findMove_13 : decode cX3_findMove 13 = .ok (.aload_n 0, 1) := by decide +kernel
theorem dX3_findMove_14 : decode cX3_findMove 14 = .ok (.iload_n 1, 1) := by decide +kernel
theorem dX3_findMove_15 : decode cX3_findMove 15 = .ok (.invokevirtual 130, 3) := by decide +kernel
theorem dX3_findMove_18 : decode cX3_findMove 18 = .ok (.ifCond .ne 29, 3) := by decide +kernel
theorem dX3_findMove_21 : decode cX3_findMove 21 = .ok (.aload_n 0, 1) := by decide +kernel
theorem dX3_findMove_22 : decode cX3_findMove 22 = .ok (.iconst 2, 1) := by decide +kernel
theorem dX3_findMove_23 : decode cX3_findMove 23 = .ok (.aload_n 0, 1) := by decide +kernel
theorem dX3_findMove_24 : decode cX3_findMove 24 = .ok (.getfield 26, 3) := by decide +kernel
theorem dX3_findMove_27 : decode cX3_findMove 27 = .ok (.iload_n 1, 1) := by decide +kernel
theorem dX3_findMove_28 : decode cX3_findMove 28 = .ok (.invokevirtual 72, 3) := by decide +kernel
theorem dX3_findMove_31 : decode cX3_findMove 31 = .ok (.aload_n 0, 1) := by decide +kernel
theorem dX3_findMove_32 : decode cX3_findMove 32 = .ok (.aload_n 0, 1) := by decide +kernel
theorem dX3_findMove_33 : decode cX3_findMove 33 = .ok (.getfield 9, 3) := by decide +kernel
theorem dX3_findMove_36 : decode cX3_findMove 36 = .ok (.iload_n 1, 1) := by decide +kernel
theorem dX3_findMove_37 : decode cX3_findMove 37 = .ok (.iaload, 1) := by decide +kernel
theorem dX3_findMove_38 : decode cX3_findMove 38 = .ok (.iload_n 1, 1) := by decide +kernel
theorem dX3_findMove_39 : decode cX3_findMove 39 = .ok (.invokevirtual 127, 3) := by decide +kernel
theorem dX3_findMove_42 : decode cX3_findMove 42 = .ok (.invokevirtual 55, 3) := by decide +kernel
theorem dX3_findMove_45 : decode cX3_findMove 45 = .ok (.iconst 1, 1) := by decide +kernel
theorem dX3_findMove_46 : decode cX3_findMove 46 = .ok (.ireturn, 1) := by decide +kernel
theorem dX3_findMove_47 : decode cX3_findMove 47 = .ok (.iinc 1 1, 3) := by decide +kernel
theorem dX3_findMove_50 : decode cX3_findMove 50 = .ok (.goto (-48), 3) := by decide +kernel
theorem dX3_findMove_53 : decode cX3_findMove 53 = .ok (.iconst 0, 1) := by decide +kernel
theorem dX3_findMove_54 : decode cX3_findMove 54 = .ok (.ireturn, 1) := by decide +kernel
set_option maxRecDepth 20000 in
theorem ggX3_placeBehindKept_X3_isKept : GoodIn wsX3_placeBehindKept wsX3_isKept := goodIn_r _ [8, 1, 9, 10, 11, 12, 13, 14, 15, 23, 24, 25, 26, 27, 28, 29, 30, 31, 32, 33, 34] (by decide +kernel) (by decide +kernel)
set_option maxRecDepth 20000 in
theorem gX3_placeBehindKept_X3_isKept : GoodIn wsX3_placeBehindKept (wsV RX3 130 RX3 yX3_isKept wsX3_isKept) := goodIn_app (goodIn_of _ (by decide +kernel)) ggX3_placeBehindKept_X3_isKept
set_option maxRecDepth 20000 in
theorem ggX3_placeBehindKept_X4_isAhead : GoodIn wsX3_placeBehindKept wsX4_isAhead := goodIn_r _ [20, 21, 22, 35, 36, 37, 38, 39, 40] (by decide +kernel) (by decide +kernel)
set_option maxRecDepth 20000 in
theorem gX3_placeBehindKept_X4_isAhead : GoodIn wsX3_placeBehindKept (wsV RX3 92 RX4 yX4_isAhead wsX4_isAhead) := goodIn_app (goodIn_of _ (by decide +kernel)) ggX3_placeBehindKept_X4_isAhead
theorem dX3_placeBehindKept_0 : decode cX3_placeBehindKept 0 = .ok (.iconst 0, 1) := by decide +kernel
theorem dX3_placeBehindKept_1 : decode cX3_placeBehindKept 1 = .ok (.istore_n 3, 1) := by decide +kernel
theorem dX3_placeBehindKept_2 : decode cX3_placeBehindKept 2 = .ok (.iconst 0, 1) := by decide +kernel
theorem dX3_placeBehindKept_3 : decode cX3_placeBehindKept 3 = .ok (.istore 4, 2) := by decide +kernel
theorem dX3_placeBehindKept_5 : decode cX3_placeBehindKept 5 = .ok (.iconst 0, 1) := by decide +kernel
theorem dX3_placeBehindKept_6 : decode cX3_placeBehindKept 6 = .ok (.istore 5, 2) := by decide +kernel
theorem dX3_placeBehindKept_8 : decode cX3_placeBehindKept 8 = .ok (.iload 5, 2) := by decide +kernel
theorem dX3_placeBehindKept_10 : decode cX3_placeBehindKept 10 = .ok (.aload_n 0, 1) := by decide +kernel
theorem dX3_placeBehindKept_11 : decode cX3_placeBehindKept 11 = .ok (.getfield 26, 3) := by decide +kernel
theorem dX3_placeBehindKept_14 : decode cX3_placeBehindKept 14 = .ok (.getfield 69, 3) := by decide +kernel
theorem dX3_placeBehindKept_17 : decode cX3_placeBehindKept 17 = .ok (.if_icmp .ge 51, 3) := by decide +kernel
theorem dX3_placeBehindKept_20 : decode cX3_placeBehindKept 20 = .ok (.iload 5, 2) := by decide +kernel
theorem dX3_placeBehindKept_22 : decode cX3_placeBehindKept 22 = .ok (.iload_n 2, 1) := by decide +kernel
theorem dX3_placeBehindKept_23 : decode cX3_placeBehindKept 23 = .ok (.if_icmp .ne 6, 3) := by decide +kernel
theorem dX3_placeBehindKept_26 : decode cX3_placeBehindKept 26 = .ok (.goto 36, 3) := by decide +kernel
theorem dX3_placeBehindKept_29 : decode cX3_placeBehindKept 29 = .ok (.iinc 4 1, 3) := by decide +kernel
theorem dX3_placeBehindKept_32 : decode cX3_placeBehindKept 32 = .ok (.aload_n 0, 1) := by decide +kernel
theorem dX3_placeBehindKept_33 : decode cX3_placeBehindKept 33 = .ok (.iload 5, 2) := by decide +kernel
theorem dX3_placeBehindKept_35 : decode cX3_placeBehindKept 35 = .ok (.invokevirtual 130, 3) := by decide +kernel
theorem dX3_placeBehindKept_38 : decode cX3_placeBehindKept 38 = .ok (.ifCond .eq 24, 3) := by decide +kernel
theorem dX3_placeBehindKept_41 : decode cX3_placeBehindKept 41 = .ok (.aload_n 0, 1) := by decide +kernel
theorem dX3_placeBehindKept_42 : decode cX3_placeBehindKept 42 = .ok (.getfield 22, 3) := by decide +kernel
theorem dX3_placeBehindKept_45 : decode cX3_placeBehindKept 45 = .ok (.aload_n 0, 1) := by decide +kernel
theorem dX3_placeBehindKept_46 : decode cX3_placeBehindKept 46 = .ok (.getfield 9, 3) := by decide +kernel
theorem dX3_placeBehindKept_49 : decode cX3_placeBehindKept 49 = .ok (.iload 5, 2) := by decide +kernel
theorem dX3_placeBehindKept_51 : decode cX3_placeBehindKept 51 = .ok (.iaload, 1) := by decide +kernel
theorem dX3_placeBehindKept_52 : decode cX3_placeBehindKept 52 = .ok (.iload_n 1, 1) := by decide +kernel
theorem dX3_placeBehindKept_53 : decode cX3_placeBehindKept 53 = .ok (.invokevirtual 92, 3) := by decide +kernel
theorem dX3_placeBehindKept_56 : decode cX3_placeBehindKept 56 = .ok (.ifCond .eq 6, 3) := by decide +kernel
theorem dX3_placeBehindKept_59 : decode cX3_placeBehindKept 59 = .ok (.iload 4, 2) := by decide +kernel
theorem dX3_placeBehindKept_61 : decode cX3_placeBehindKept 61 = .ok (.istore_n 3, 1) := by decide +kernel
theorem dX3_placeBehindKept_62 : decode cX3_placeBehindKept 62 = .ok (.iinc 5 1, 3) := by decide +kernel
theorem dX3_placeBehindKept_65 : decode cX3_placeBehindKept 65 = .ok (.goto (-57), 3) := by decide +kernel
theorem dX3_placeBehindKept_68 : decode cX3_placeBehindKept 68 = .ok (.iload_n 3, 1) := by decide +kernel
theorem dX3_placeBehindKept_69 : decode cX3_placeBehindKept 69 = .ok (.ireturn, 1) := by decide +kernel
set_option maxRecDepth 20000 in
theorem ggX4_init_J7_fill_53178 : GoodIn wsX4_init wsJ7_fill_53178 := goodIn_r _ [12] (by decide +kernel) (by decide +kernel)
set_option maxRecDepth 20000 in
theorem gX4_init_J7_fill_53178 : GoodIn wsX4_init (va_wsS RX4 24 yJ7_fill_53178 wsJ7_fill_53178) := goodIn_app (goodIn_of _ (by decide +kernel)) ggX4_init_J7_fill_53178
theorem dX4_init_0 : decode cX4_init 0 = .ok (.aload_n 0, 1) := by decide +kernel
theorem dX4_init_1 : decode cX4_init 1 = .ok (.invokespecial 3, 3) := by decide +kernel
theorem dX4_init_4 : decode cX4_init 4 = .ok (.aload_n 0, 1) := by decide +kernel
theorem dX4_init_5 : decode cX4_init 5 = .ok (.bipush 12, 2) := by decide +kernel
theorem dX4_init_7 : decode cX4_init 7 = .ok (.newarray .int, 2) := by decide +kernel
theorem dX4_init_9 : decode cX4_init 9 = .ok (.putfield 9, 3) := by decide +kernel
theorem dX4_init_12 : decode cX4_init 12 = .ok (.aload_n 0, 1) := by decide +kernel
theorem dX4_init_13 : decode cX4_init 13 = .ok (.bipush 16, 2) := by decide +kernel
theorem dX4_init_15 : decode cX4_init 15 = .ok (.newarray .int, 2) := by decide +kernel
theorem dX4_init_17 : decode cX4_init 17 = .ok (.putfield 15, 3) := by decide +kernel
theorem dX4_init_20 : decode cX4_init 20 = .ok (.aload_n 0, 1) := by decide +kernel
theorem dX4_init_21 : decode cX4_init 21 = .ok (.bipush 12, 2) := by decide +kernel
theorem dX4_init_23 : decode cX4_init 23 = .ok (.newarray .int, 2) := by decide +kernel
theorem dX4_init_25 : decode cX4_init 25 = .ok (.putfield 18, 3) := by decide +kernel
theorem dX4_init_28 : decode cX4_init 28 = .ok (.aload_n 0, 1) := by decide +kernel
theorem dX4_init_29 : decode cX4_init 29 = .ok (.sipush 4096, 3) := by decide +kernel
theorem dX4_init_32 : decode cX4_init 32 = .ok (.newarray .int, 2) := by decide +kernel
theorem dX4_init_34 : decode cX4_init 34 = .ok (.putfield 21, 3) := by decide +kernel
theorem dX4_init_37 : decode cX4_init 37 = .ok (.aload_n 0, 1) := by decide +kernel
theorem dX4_init_38 : decode cX4_init 38 = .ok (.getfield 15, 3) := by decide +kernel
theorem dX4_init_41 : decode cX4_init 41 = .ok (.iconst (-1), 1) := by decide +kernel
theorem dX4_init_42 : decode cX4_init 42 = .ok (.invokestatic 24, 3) := by decide +kernel
theorem dX4_init_45 : decode cX4_init 45 = .ok (.return_, 1) := by decide +kernel
set_option maxRecDepth 20000 in
theorem ggX4_forget_J7_fill_53178 : GoodIn wsX4_forget wsJ7_fill_53178 := goodIn_r _ [7] (by decide +kernel) (by decide +kernel)
set_option maxRecDepth 20000 in
theorem gX4_forget_J7_fill_53178 : GoodIn wsX4_forget (va_wsS RX4 24 yJ7_fill_53178 wsJ7_fill_53178) := goodIn_app (goodIn_of _ (by decide +kernel)) ggX4_forget_J7_fill_53178
theorem dX4_forget_0 : decode cX4_forget 0 = .ok (.aload_n 0, 1) := by decide +kernel
theorem dX4_forget_1 : decode cX4_forget 1 = .ok (.getfield 15, 3) := by decide +kernel
theorem dX4_forget_4 : decode cX4_forget 4 = .ok (.iconst (-1), 1) := by decide +kernel
theorem dX4_forget_5 : decode cX4_forget 5 = .ok (.invokestatic 24, 3) := by decide +kernel
theorem dX4_forget_8 : decode cX4_forget 8 = .ok (.aload_n 0, 1) := by decide +kernel
theorem dX4_forget_9 : decode cX4_forget 9 = .ok (.iconst 0, 1) := by decide +kernel
theorem dX4_forget_10 : decode cX4_forget 10 = .ok (.putfield 30, 3) := by decide +kernel
theorem dX4_forget_13 : decode cX4_forget 13 = .ok (.aload_n 0, 1) := by decide +kernel
theorem dX4_forget_14 : decode cX4_forget 14 = .ok (.iconst 0, 1) := by decide +kernel
theorem dX4_forget_15 : decode cX4_forget 15 = .ok (.putfield 34, 3) := by decide +kernel
theorem dX4_forget_18 : decode cX4_forget 18 = .ok (.return_, 1) := by decide +kernel
set_option maxRecDepth 20000 in
theorem ggX4_join_X1_areBound : GoodIn wsX4_join wsX1_areBound := goodIn_r _ [10, 11, 12, 13, 9, 14, 15, 16, 17, 18, 19, 20, 21, 22, 23, 24, 25, 26, 27, 28, 29, 30, 37, 38, 39, 40, 41, 42] (by decide +kernel) (by decide +kernel)
set_option maxRecDepth 20000 in
theorem gX4_join_X1_areBound : GoodIn wsX4_join (wsV RX4 38 RX1 yX1_areBound wsX1_areBound) := goodIn_app (goodIn_of _ (by decide +kernel)) ggX4_join_X1_areBound
theorem dX4_join_0 : decode cX4_join 0 = .ok (.aload_n 0, 1) := by decide +kernel
theorem dX4_join_1 : decode cX4_join 1 = .ok (.getfield 30, 3) := by decide +kernel
theorem dX4_join_4 : decode cX4_join 4 = .ok (.bipush 12, 2) := by decide +kernel
theorem dX4_join_6 : decode cX4_join 6 = .ok (.if_icmp .ge 13, 3) := by decide +kernel
theorem dX4_join_9 : decode cX4_join 9 = .ok (.iload_n 2, 1) := by decide +kernel
theorem dX4_join_10 : decode cX4_join 10 = .ok (.ifCond .lt 9, 3) := by decide +kernel
theorem dX4_join_13 : decode cX4_join 13 = .ok (.iload_n 2, 1) := by decide +kernel
theorem dX4_join_14 : decode cX4_join 14 = .ok (.bipush 16, 2) := by decide +kernel
theorem dX4_join_16 : decode cX4_join 16 = .ok (.if_icmp .lt 4, 3) := by decide +kernel
theorem dX4_join_19 : decode cX4_join 19 = .ok (.return_, 1) := by decide +kernel
theorem dX4_join_20 : decode cX4_join 20 = .ok (.iconst 0, 1) := by decide +kernel
theorem dX4_join_21 : decode cX4_join 21 = .ok (.istore_n 3, 1) := by decide +kernel
theorem dX4_join_22 : decode cX4_join 22 = .ok (.iconst 0, 1) := by decide +kernel
theorem dX4_join_23 : decode cX4_join 23 = .ok (.istore 4, 2) := by decide +kernel
theorem dX4_join_25 : decode cX4_join 25 = .ok (.iload 4, 2) := by decide +kernel
theorem dX4_join_27 : decode cX4_join 27 = .ok (.aload_n 0, 1) := by decide +kernel
theorem dX4_join_28 : decode cX4_join 28 = .ok (.getfield 30, 3) := by decide +kernel
theorem dX4_join_31 : decode cX4_join 31 = .ok (.if_icmp .ge 39, 3) := by decide +kernel
theorem dX4_join_34 : decode cX4_join 34 = .ok (.aload_n 1, 1) := by decide +kernel
theorem dX4_join_35 : decode cX4_join 35 = .ok (.aload_n 0, 1) := by decide +kernel
theorem dX4_join_36 : decode cX4_join 36 = .ok (.getfield 9, 3) := by decide +kernel
theorem dX4_join_39 : decode cX4_join 39 = .ok (.iload 4, 2) := by decide +kernel
theorem dX4_join_41 : decode cX4_join 41 = .ok (.iaload, 1) := by decide +kernel
theorem dX4_join_42 : decode cX4_join 42 = .ok (.iload_n 2, 1) := by decide +kernel
theorem dX4_join_43 : decode cX4_join 43 = .ok (.invokevirtual 38, 3) := by decide +kernel
theorem dX4_join_46 : decode cX4_join 46 = .ok (.ifCond .eq 18, 3) := by decide +kernel
theorem dX4_join_49 : decode cX4_join 49 = .ok (.iload_n 3, 1) := by decide +kernel
theorem dX4_join_50 : decode cX4_join 50 = .ok (.aload_n 0, 1) := by decide +kernel
theorem dX4_join_51 : decode cX4_join 51 = .ok (.getfield 18, 3) := by decide +kernel
theorem dX4_join_54 : decode cX4_join 54 = .ok (.iload 4, 2) := by decide +kernel
theorem dX4_join_56 : decode cX4_join 56 = .ok (.iaload, 1) := by decide +kernel
theorem dX4_join_57 : decode cX4_join 57 = .ok (.iconst 1, 1) := by decide +kernel
theorem dX4_join_58 : decode cX4_join 58 = .ok (.iload 4, 2) := by decide +kernel
theorem dX4_join_60 : decode cX4_join 60 = .ok (.ishl, 1) := by decide +kernel
theorem dX4_join_61 : decode cX4_join 61 = .ok (.ior, 1) := by decide +kernel
theorem dX4_join_62 : decode cX4_join 62 = .ok (.ior, 1) := by decide +kernel
theorem dX4_join_63 : decode cX4_join 63 = .ok (.istore_n 3, 1) := by decide +kernel
theorem dX4_join_64 : decode cX4_join 64 = .ok (.iinc 4 1, 3) := by decide +kernel
theorem dX4_join_67 : decode cX4_join 67 = .ok (.goto (-42), 3) := by decide +kernel
theorem dX4_join_70 : decode cX4_join 70 = .ok (.aload_n 0, 1) := by decide +kernel
theorem dX4_join_71 : decode cX4_join 71 = .ok (.getfield 9, 3) := by decide +kernel
theorem dX4_join_74 : decode cX4_join 74 = .ok (.aload_n 0, 1) := by decide +kernel
theorem dX4_join_75 : decode cX4_join 75 = .ok (.getfield 30, 3) := by decide +kernel
theorem dX4_join_78 : decode cX4_join 78 = .ok (.iload_n 2, 1) := by decide +kernel
theorem dX4_join_79 : decode cX4_join 79 = .ok (.iastore, 1) := by decide +kernel
theorem dX4_join_80 : decode cX4_join 80 = .ok (.aload_n 0, 1) := by decide +kernel
theorem dX4_join_81 : decode cX4_join 81 = .ok (.getfield 15, 3) := by decide +kernel
theorem dX4_join_84 : decode cX4_join 84 = .ok (.iload_n 2, 1) := by decide +kernel
theorem dX4_join_85 : decode cX4_join 85 = .ok (.aload_n 0, 1) := by decide +kernel
theorem dX4_join_86 : decode cX4_join 86 = .ok (.getfield 30, 3) := by decide +kernel
theorem dX4_join_89 : decode cX4_join 89 = .ok (.iastore, 1) := by decide +kernel
theorem dX4_join_90 : decode cX4_join 90 = .ok (.aload_n 0, 1) := by decide +kernel
theorem dX4_join_91 : decode cX4_join 91 = .ok (.getfield 18, 3) := by decide +kernel
theorem dX4_join_94 : decode cX4_join 94 = .ok (.aload_n 0, 1) := by decide +kernel
theorem dX4_join_95 : decode cX4_join 95 = .ok (.getfield 30, 3) := by decide +kernel
theorem dX4_join_98 : decode cX4_join 98 = .ok (.iload_n 3, 1) := by decide +kernel
theorem dX4_join_99 : decode cX4_join 99 = .ok (.iastore, 1) := by decide +kernel
theorem dX4_join_100 : decode cX4_join 100 = .ok (.aload_n 0, 1) := by decide +kernel
theorem dX4_join_101 : decode cX4_join 101 = .ok (.dup, 1) := by decide +kernel
theorem dX4_join_102 : decode cX4_join 102 = .ok (.getfield 30, 3) := by decide +kernel
theorem dX4_join_105 : decode cX4_join 105 = .ok (.iconst 1, 1) := by decide +kernel
theorem dX4_join_106 : decode cX4_join 106 = .ok (.iadd, 1) := by decide +kernel
theorem dX4_join_107 : decode cX4_join 107 = .ok (.putfield 30, 3) := by decide +kernel
theorem dX4_join_110 : decode cX4_join 110 = .ok (.aload_n 0, 1) := by decide +kernel
theorem dX4_join_111 : decode cX4_join 111 = .ok (.iconst 0, 1) := by decide +kernel
theorem dX4_join_112 : decode cX4_join 112 = .ok (.putfield 34, 3) := by decide +kernel
theorem dX4_join_115 : decode cX4_join 115 = .ok (.return_, 1) := by decide +kernel
theorem dX4_lineOf_0 : decode cX4_lineOf 0 = .ok (.iload_n 1, 1) := by decide +kernel
theorem dX4_lineOf_1 : decode cX4_lineOf 1 = .ok (.ifCond .lt 20, 3) := by decide +kernel
theorem dX4_lineOf_4 : decode cX4_lineOf 4 = .ok (.iload_n 1, 1) := by decide +kernel
theorem dX4_lineOf_5 : decode cX4_lineOf 5 = .ok (.aload_n 0, 1) := by decide +kernel
theorem dX4_lineOf_6 : decode cX4_lineOf 6 = .ok (.getfield 30, 3) := by decide +kernel
theorem dX4_lineOf_9 : decode cX4_lineOf 9 = .ok (.if_icmp .ge 12, 3) := by decide +kernel
theorem dX4_lineOf_12 : decode cX4_lineOf 12 = .ok (.aload_n 0, 1) := by decide +kernel
theorem dX4_lineOf_13 : decode cX4_lineOf 13 = .ok (.getfield 9, 3) := by decide +kernel
theorem dX4_lineOf_16 : decode cX4_lineOf 16 = .ok (.iload_n 1, 1) := by decide +kernel
theorem dX4_lineOf_17 : decode cX4_lineOf 17 = .ok (.iaload, 1) := by decide +kernel
theorem dX4_lineOf_18 : decode cX4_lineOf 18 = .ok (.goto 4, 3) := by decide +kernel
theorem dX4_lineOf_21 : decode cX4_lineOf 21 = .ok (.iconst (-1), 1) := by decide +kernel
theorem dX4_lineOf_22 : decode cX4_lineOf 22 = .ok (.ireturn, 1) := by decide +kernel
theorem dX4_rankOf_0 : decode cX4_rankOf 0 = .ok (.iload_n 1, 1) := by decide +kernel
theorem dX4_rankOf_1 : decode cX4_rankOf 1 = .ok (.ifCond .lt 18, 3) := by decide +kernel
theorem dX4_rankOf_4 : decode cX4_rankOf 4 = .ok (.iload_n 1, 1) := by decide +kernel
theorem dX4_rankOf_5 : decode cX4_rankOf 5 = .ok (.bipush 16, 2) := by decide +kernel
theorem dX4_rankOf_7 : decode cX4_rankOf 7 = .ok (.if_icmp .ge 12, 3) := by decide +kernel
theorem dX4_rankOf_10 : decode cX4_rankOf 10 = .ok (.aload_n 0, 1) := by decide +kernel
theorem dX4_rankOf_11 : decode cX4_rankOf 11 = .ok (.getfield 15, 3) := by decide +kernel
theorem dX4_rankOf_14 : decode cX4_rankOf 14 = .ok (.iload_n 1, 1) := by decide +kernel
theorem dX4_rankOf_15 : decode cX4_rankOf 15 = .ok (.iaload, 1) := by decide +kernel
theorem dX4_rankOf_16 : decode cX4_rankOf 16 = .ok (.goto 4, 3) := by decide +kernel
theorem dX4_rankOf_19 : decode cX4_rankOf 19 = .ok (.iconst (-1), 1) := by decide +kernel
theorem dX4_rankOf_20 : decode cX4_rankOf 20 = .ok (.ireturn, 1) := by decide +kernel
theorem dX4_isAhead_0 : decode cX4_isAhead 0 = .ok (.iload_n 1, 1) := by decide +kernel
theorem dX4_isAhead_1 : decode cX4_isAhead 1 = .ok (.ifCond .lt 40, 3) := by decide +kernel
theorem dX4_isAhead_4 : decode cX4_isAhead 4 = .ok (.iload_n 1, 1) := by decide +kernel
theorem dX4_isAhead_5 : decode cX4_isAhead 5 = .ok (.aload_n 0, 1) := by decide +kernel
theorem dX4_isAhead_6 : decode cX4_isAhead 6 = .ok (.getfield 30, 3) := by decide +kernel
theorem dX4_isAhead_9 : decode cX4_isAhead 9 = .ok (.if_icmp .ge 32, 3) := by decide +kernel
theorem dX4_isAhead_12 : decode cX4_isAhead 12 = .ok (.iload_n 2, 1) := by decide +kernel
theorem dX4_isAhead_13 : decode cX4_isAhead 13 = .ok (.ifCond .lt 28, 3) := by decide +kernel
theorem dX4_isAhead_16 : decode cX4_isAhead 16 = .ok (.iload_n 2, 1) := by decide +kernel
theorem dX4_isAhead_17 : decode cX4_isAhead 17 = .ok (.aload_n 0, 1) := by decide +kernel
theorem dX4_isAhead_18 : decode cX4_isAhead 18 = .ok (.getfield 30, 3) := by decide +kernel
theorem dX4_isAhead_21 : decode cX4_isAhead 21 = .ok (.if_icmp .ge 20, 3) := by decide +kernel
theorem dX4_isAhead_24 : decode cX4_isAhead 24 = .ok (.aload_n 0, 1) := by decide +kernel
theorem dX4_isAhead_25 : decode cX4_isAhead 25 = .ok (.getfield 18, 3) := by decide +kernel
theorem dX4_isAhead_28 : decode cX4_isAhead 28 = .ok (.iload_n 2, 1) := by decide +kernel
theorem dX4_isAhead_29 : decode cX4_isAhead 29 = .ok (.iaload, 1) := by decide +kernel
theorem dX4_isAhead_30 : decode cX4_isAhead 30 = .ok (.iload_n 1, 1) := by decide +kernel
theorem dX4_isAhead_31 : decode cX4_isAhead 31 = .ok (.ishr, 1) := by decide +kernel
theorem dX4_isAhead_32 : decode cX4_isAhead 32 = .ok (.iconst 1, 1) := by decide +kernel
theorem dX4_isAhead_33 : decode cX4_isAhead 33 = .ok (.iand, 1) := by decide +kernel
theorem dX4_isAhead_34 : decode cX4_isAhead 34 = .ok (.ifCond .eq 7, 3) := by decide +kernel
theorem dX4_isAhead_37 : decode cX4_isAhead 37 = .ok (.iconst 1, 1) := by decide +kernel
theorem dX4_isAhead_38 : decode cX4_isAhead 38 = .ok (.goto 4, 3) := by decide +kernel
theorem dX4_isAhead_41 : decode cX4_isAhead 41 = .ok (.iconst 0, 1) := by decide +kernel
theorem dX4_isAhead_42 : decode cX4_isAhead 42 = .ok (.ireturn, 1) := by decide +kernel
set_option maxRecDepth 20000 in
theorem ggX4_manyPairs_J6_bitCount_0f7a4 : GoodIn wsX4_manyPairs wsJ6_bitCount_0f7a4 := goodIn_r _ [6, 7, 8, 9] (by decide +kernel) (by decide +kernel)
set_option maxRecDepth 20000 in
theorem gX4_manyPairs_J6_bitCount_0f7a4 : GoodIn wsX4_manyPairs (va_wsS RX4 44 yJ6_bitCount_0f7a4 wsJ6_bitCount_0f7a4) := goodIn_app (goodIn_of _ (by decide +kernel)) ggX4_manyPairs_J6_bitCount_0f7a4
theorem dX4_manyPairs_0 : decode cX4_manyPairs 0 = .ok (.iconst 0, 1) := by decide +kernel
theorem dX4_manyPairs_1 : decode cX4_manyPairs 1 = .ok (.istore_n 1, 1) := by decide +kernel
theorem dX4_manyPairs_2 : decode cX4_manyPairs 2 = .ok (.iconst 0, 1) := by decide +kernel
theorem dX4_manyPairs_3 : decode cX4_manyPairs 3 = .ok (.istore_n 2, 1) := by decide +kernel
theorem dX4_manyPairs_4 : decode cX4_manyPairs 4 = .ok (.iload_n 2, 1) := by decide +kernel
theorem dX4_manyPairs_5 : decode cX4_manyPairs 5 = .ok (.aload_n 0, 1) := by decide +kernel
theorem dX4_manyPairs_6 : decode cX4_manyPairs 6 = .ok (.getfield 30, 3) := by decide +kernel
theorem dX4_manyPairs_9 : decode cX4_manyPairs 9 = .ok (.if_icmp .ge 21, 3) := by decide +kernel
theorem dX4_manyPairs_12 : decode cX4_manyPairs 12 = .ok (.iload_n 1, 1) := by decide +kernel
theorem dX4_manyPairs_13 : decode cX4_manyPairs 13 = .ok (.aload_n 0, 1) := by decide +kernel
theorem dX4_manyPairs_14 : decode cX4_manyPairs 14 = .ok (.getfield 18, 3) := by decide +kernel
theorem dX4_manyPairs_17 : decode cX4_manyPairs 17 = .ok (.iload_n 2, 1) := by decide +kernel
theorem dX4_manyPairs_18 : decode cX4_manyPairs 18 = .ok (.iaload, 1) := by decide +kernel
theorem dX4_manyPairs_19 : decode cX4_manyPairs 19 = .ok (.invokestatic 44, 3) := by decide +kernel
theorem dX4_manyPairs_22 : decode cX4_manyPairs 22 = .ok (.iadd, 1) := by decide +kernel
theorem dX4_manyPairs_23 : decode cX4_manyPairs 23 = .ok (.istore_n 1, 1) := by decide +kernel
theorem dX4_manyPairs_24 : decode cX4_manyPairs 24 = .ok (.iinc 2 1, 3) := by decide +kernel
theorem dX4_manyPairs_27 : decode cX4_manyPairs 27 = .ok (.goto (-23), 3) := by decide +kernel
theorem dX4_manyPairs_30 : decode cX4_manyPairs 30 = .ok (.iload_n 1, 1) := by decide +kernel
theorem dX4_manyPairs_31 : decode cX4_manyPairs 31 = .ok (.ireturn, 1) := by decide +kernel
set_option maxRecDepth 20000 in
theorem ggX4_manyOrders_X4_countWays : GoodIn wsX4_manyOrders wsX4_countWays := goodIn_r _ [6, 7, 8, 1, 9, 10, 11, 5, 12, 13, 14, 15, 16, 17, 18, 19, 20, 21, 22, 23] (by decide +kernel) (by decide +kernel)
set_option maxRecDepth 20000 in
theorem gX4_manyOrders_X4_countWays : GoodIn wsX4_manyOrders (wsV RX4 50 RX4 yX4_countWays wsX4_countWays) := goodIn_app (goodIn_of _ (by decide +kernel)) ggX4_manyOrders_X4_countWays
theorem dX4_manyOrders_0 : decode cX4_manyOrders 0 = .ok (.aload_n 0, 1) := by decide +kernel
theorem dX4_manyOrders_1 : decode cX4_manyOrders 1 = .ok (.invokevirtual 50, 3) := by decide +kernel
theorem dX4_manyOrders_4 : decode cX4_manyOrders 4 = .ok (.aload_n 0, 1) := by decide +kernel
theorem dX4_manyOrders_5 : decode cX4_manyOrders 5 = .ok (.getfield 21, 3) := by decide +kernel
